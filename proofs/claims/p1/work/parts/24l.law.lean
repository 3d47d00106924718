/-! ===== equations of runs, from cut to cut ===== -/
theorem c285_23 : cd 285 23 = some (.iload 4, 2) := by decide +kernel
theorem c285_25 : cd 285 25 = some (.aload_n 0, 1) := by decide +kernel
theorem c285_26 : cd 285 26 = some (.arraylength, 1) := by decide +kernel
theorem c285_27 : cd 285 27 = some (.bipush 6, 2) := by decide +kernel
theorem c285_29 : cd 285 29 = some (.isub, 1) := by decide +kernel
theorem c285_30 : cd 285 30 = some (.if_icmp .gt 2293, 3) := by decide +kernel
theorem c285_2323 : cd 285 2323 = some (.iconst 1, 1) := by decide +kernel
theorem c285_2324 : cd 285 2324 = some (.ireturn, 1) := by decide +kernel
theorem mr285 : mR 285 = some .boolean := by decide +kernel
theorem c285_33 : cd 285 33 = some (.aload_n 0, 1) := by decide +kernel
theorem c285_34 : cd 285 34 = some (.iload 4, 2) := by decide +kernel
theorem c285_36 : cd 285 36 = some (.iaload, 1) := by decide +kernel
theorem c285_37 : cd 285 37 = some (.bipush 63, 2) := by decide +kernel
theorem c285_39 : cd 285 39 = some (.iand, 1) := by decide +kernel
theorem c285_40 : cd 285 40 = some (.tableswitch 2277 0 52 #[228, 301, 326, 351, 419, 487, 555, 623, 660, 697, 734, 759, 784, 809, 834, 847, 884, 921, 958, 995, 1032, 1081, 1142, 1191, 1228, 1253, 1290, 1327, 1364, 1401, 1426, 1463, 1500, 1537, 1562, 1587, 1612, 1685, 1734, 1759, 1820, 1869, 1894, 1919, 1932, 1957, 2006, 2055, 2092, 2141, 2190, 2227, 2252], 228) := by decide +kernel
theorem c285_268 : cd 285 268 = some (.aload_n 1, 1) := by decide +kernel
theorem c285_269 : cd 285 269 = some (.aload_n 0, 1) := by decide +kernel
theorem c285_270 : cd 285 270 = some (.iload 4, 2) := by decide +kernel
theorem c285_272 : cd 285 272 = some (.iconst 1, 1) := by decide +kernel
theorem c285_273 : cd 285 273 = some (.iadd, 1) := by decide +kernel
theorem c285_274 : cd 285 274 = some (.iaload, 1) := by decide +kernel
theorem c285_275 : cd 285 275 = some (.aload_n 0, 1) := by decide +kernel
theorem c285_276 : cd 285 276 = some (.iload 4, 2) := by decide +kernel
theorem c285_278 : cd 285 278 = some (.iconst 2, 1) := by decide +kernel
theorem c285_279 : cd 285 279 = some (.iadd, 1) := by decide +kernel
theorem c285_280 : cd 285 280 = some (.iaload, 1) := by decide +kernel
theorem c285_281 : cd 285 281 = some (.aload_n 0, 1) := by decide +kernel
theorem c285_282 : cd 285 282 = some (.iload 4, 2) := by decide +kernel
theorem c285_284 : cd 285 284 = some (.iconst 3, 1) := by decide +kernel
theorem c285_285 : cd 285 285 = some (.iadd, 1) := by decide +kernel
theorem c285_286 : cd 285 286 = some (.iaload, 1) := by decide +kernel
theorem c285_287 : cd 285 287 = some (.aload_n 0, 1) := by decide +kernel
theorem c285_288 : cd 285 288 = some (.iload 4, 2) := by decide +kernel
theorem c285_290 : cd 285 290 = some (.iconst 4, 1) := by decide +kernel
theorem c285_291 : cd 285 291 = some (.iadd, 1) := by decide +kernel
theorem c285_292 : cd 285 292 = some (.iaload, 1) := by decide +kernel
theorem c285_293 : cd 285 293 = some (.aload_n 0, 1) := by decide +kernel
theorem c285_294 : cd 285 294 = some (.iload 4, 2) := by decide +kernel
theorem c285_296 : cd 285 296 = some (.iconst 5, 1) := by decide +kernel
theorem c285_297 : cd 285 297 = some (.iadd, 1) := by decide +kernel
theorem c285_298 : cd 285 298 = some (.iaload, 1) := by decide +kernel
theorem c285_299 : cd 285 299 = some (.invokevirtual 30, 3) := by decide +kernel
theorem m285_30 : cVf 285 30 = some (90, 6, true) := by decide +kernel
theorem mo90 : (0, 6) = (0, mC 90) := by decide +kernel
theorem c285_302 : cd 285 302 = some (.aload_n 2, 1) := by decide +kernel
theorem c285_303 : cd 285 303 = some (.aload_n 0, 1) := by decide +kernel
theorem c285_304 : cd 285 304 = some (.iload 4, 2) := by decide +kernel
theorem c285_306 : cd 285 306 = some (.iconst 1, 1) := by decide +kernel
theorem c285_307 : cd 285 307 = some (.iadd, 1) := by decide +kernel
theorem c285_308 : cd 285 308 = some (.iaload, 1) := by decide +kernel
theorem c285_309 : cd 285 309 = some (.aload_n 0, 1) := by decide +kernel
theorem c285_310 : cd 285 310 = some (.iload 4, 2) := by decide +kernel
theorem c285_312 : cd 285 312 = some (.iconst 2, 1) := by decide +kernel
theorem c285_313 : cd 285 313 = some (.iadd, 1) := by decide +kernel
theorem c285_314 : cd 285 314 = some (.iaload, 1) := by decide +kernel
theorem c285_315 : cd 285 315 = some (.aload_n 0, 1) := by decide +kernel
theorem c285_316 : cd 285 316 = some (.iload 4, 2) := by decide +kernel
theorem c285_318 : cd 285 318 = some (.iconst 3, 1) := by decide +kernel
theorem c285_319 : cd 285 319 = some (.iadd, 1) := by decide +kernel
theorem c285_320 : cd 285 320 = some (.iaload, 1) := by decide +kernel
theorem c285_321 : cd 285 321 = some (.aload_n 0, 1) := by decide +kernel
theorem c285_322 : cd 285 322 = some (.iload 4, 2) := by decide +kernel
theorem c285_324 : cd 285 324 = some (.iconst 4, 1) := by decide +kernel
theorem c285_325 : cd 285 325 = some (.iadd, 1) := by decide +kernel
theorem c285_326 : cd 285 326 = some (.iaload, 1) := by decide +kernel
theorem c285_327 : cd 285 327 = some (.aload_n 0, 1) := by decide +kernel
theorem c285_328 : cd 285 328 = some (.iload 4, 2) := by decide +kernel
theorem c285_330 : cd 285 330 = some (.iconst 5, 1) := by decide +kernel
theorem c285_331 : cd 285 331 = some (.iadd, 1) := by decide +kernel
theorem c285_332 : cd 285 332 = some (.iaload, 1) := by decide +kernel
theorem c285_333 : cd 285 333 = some (.invokevirtual 34, 3) := by decide +kernel
theorem m285_34 : cVf 285 34 = some (166, 6, true) := by decide +kernel
theorem mo166 : (0, 7) = (0, mC 166) := by decide +kernel
theorem c285_336 : cd 285 336 = some (.if_icmp .eq 1981, 3) := by decide +kernel
theorem c285_339 : cd 285 339 = some (.iconst 0, 1) := by decide +kernel
theorem c285_340 : cd 285 340 = some (.ireturn, 1) := by decide +kernel
theorem c285_341 : cd 285 341 = some (.aload_n 1, 1) := by decide +kernel
theorem c285_342 : cd 285 342 = some (.aload_n 0, 1) := by decide +kernel
theorem c285_343 : cd 285 343 = some (.iload 4, 2) := by decide +kernel
theorem c285_345 : cd 285 345 = some (.iconst 1, 1) := by decide +kernel
theorem c285_346 : cd 285 346 = some (.iadd, 1) := by decide +kernel
theorem c285_347 : cd 285 347 = some (.iaload, 1) := by decide +kernel
theorem c285_348 : cd 285 348 = some (.invokevirtual 35, 3) := by decide +kernel
theorem m285_35 : cVf 285 35 = some (91, 2, true) := by decide +kernel
theorem mo91 : (0, 6) = (0, mC 91) := by decide +kernel
theorem c285_351 : cd 285 351 = some (.aload_n 2, 1) := by decide +kernel
theorem c285_352 : cd 285 352 = some (.aload_n 0, 1) := by decide +kernel
theorem c285_353 : cd 285 353 = some (.iload 4, 2) := by decide +kernel
theorem c285_355 : cd 285 355 = some (.iconst 1, 1) := by decide +kernel
theorem c285_356 : cd 285 356 = some (.iadd, 1) := by decide +kernel
theorem c285_357 : cd 285 357 = some (.iaload, 1) := by decide +kernel
theorem c285_358 : cd 285 358 = some (.invokevirtual 39, 3) := by decide +kernel
theorem m285_39 : cVf 285 39 = some (186, 2, true) := by decide +kernel
theorem mo186 : (0, 7) = (0, mC 186) := by decide +kernel
theorem c285_361 : cd 285 361 = some (.if_icmp .eq 1956, 3) := by decide +kernel
theorem c285_364 : cd 285 364 = some (.iconst 0, 1) := by decide +kernel
theorem c285_365 : cd 285 365 = some (.ireturn, 1) := by decide +kernel
theorem c285_366 : cd 285 366 = some (.aload_n 1, 1) := by decide +kernel
theorem c285_367 : cd 285 367 = some (.aload_n 0, 1) := by decide +kernel
theorem c285_368 : cd 285 368 = some (.iload 4, 2) := by decide +kernel
theorem c285_370 : cd 285 370 = some (.iconst 1, 1) := by decide +kernel
theorem c285_371 : cd 285 371 = some (.iadd, 1) := by decide +kernel
theorem c285_372 : cd 285 372 = some (.iaload, 1) := by decide +kernel
theorem c285_373 : cd 285 373 = some (.invokevirtual 40, 3) := by decide +kernel
theorem m285_40 : cVf 285 40 = some (92, 2, true) := by decide +kernel
theorem mo92 : (0, 6) = (0, mC 92) := by decide +kernel
theorem c285_376 : cd 285 376 = some (.aload_n 2, 1) := by decide +kernel
theorem c285_377 : cd 285 377 = some (.aload_n 0, 1) := by decide +kernel
theorem c285_378 : cd 285 378 = some (.iload 4, 2) := by decide +kernel
theorem c285_380 : cd 285 380 = some (.iconst 1, 1) := by decide +kernel
theorem c285_381 : cd 285 381 = some (.iadd, 1) := by decide +kernel
theorem c285_382 : cd 285 382 = some (.iaload, 1) := by decide +kernel
theorem c285_383 : cd 285 383 = some (.invokevirtual 43, 3) := by decide +kernel
theorem m285_43 : cVf 285 43 = some (190, 2, true) := by decide +kernel
theorem mo190 : (0, 7) = (0, mC 190) := by decide +kernel
theorem c285_386 : cd 285 386 = some (.if_icmp .eq 1931, 3) := by decide +kernel
theorem c285_389 : cd 285 389 = some (.iconst 0, 1) := by decide +kernel
theorem c285_390 : cd 285 390 = some (.ireturn, 1) := by decide +kernel
theorem c285_391 : cd 285 391 = some (.aload_n 1, 1) := by decide +kernel
theorem c285_392 : cd 285 392 = some (.aload_n 0, 1) := by decide +kernel
theorem c285_393 : cd 285 393 = some (.iload 4, 2) := by decide +kernel
theorem c285_395 : cd 285 395 = some (.iconst 1, 1) := by decide +kernel
theorem c285_396 : cd 285 396 = some (.iadd, 1) := by decide +kernel
theorem c285_397 : cd 285 397 = some (.iaload, 1) := by decide +kernel
theorem c285_398 : cd 285 398 = some (.aload_n 0, 1) := by decide +kernel
theorem c285_399 : cd 285 399 = some (.iload 4, 2) := by decide +kernel
theorem c285_401 : cd 285 401 = some (.iconst 2, 1) := by decide +kernel
theorem c285_402 : cd 285 402 = some (.iadd, 1) := by decide +kernel
theorem c285_403 : cd 285 403 = some (.iaload, 1) := by decide +kernel
theorem c285_404 : cd 285 404 = some (.aload_n 3, 1) := by decide +kernel
theorem c285_405 : cd 285 405 = some (.invokestatic 44, 3) := by decide +kernel
theorem mc285 : mC 285 = 9 := by decide +kernel
theorem c285_408 : cd 285 408 = some (.istore 5, 2) := by decide +kernel
theorem c285_410 : cd 285 410 = some (.aload_n 2, 1) := by decide +kernel
theorem c285_411 : cd 285 411 = some (.aload_n 0, 1) := by decide +kernel
theorem c285_412 : cd 285 412 = some (.iload 4, 2) := by decide +kernel
theorem c285_414 : cd 285 414 = some (.iconst 1, 1) := by decide +kernel
theorem c285_415 : cd 285 415 = some (.iadd, 1) := by decide +kernel
theorem c285_416 : cd 285 416 = some (.iaload, 1) := by decide +kernel
theorem c285_417 : cd 285 417 = some (.aload_n 0, 1) := by decide +kernel
theorem c285_418 : cd 285 418 = some (.iload 4, 2) := by decide +kernel
theorem c285_420 : cd 285 420 = some (.iconst 2, 1) := by decide +kernel
theorem c285_421 : cd 285 421 = some (.iadd, 1) := by decide +kernel
theorem c285_422 : cd 285 422 = some (.iaload, 1) := by decide +kernel
theorem c285_423 : cd 285 423 = some (.invokevirtual 49, 3) := by decide +kernel
theorem m285_49 : cVf 285 49 = some (224, 3, true) := by decide +kernel
theorem mo224 : (0, 7) = (0, mC 224) := by decide +kernel
theorem c285_426 : cd 285 426 = some (.istore 6, 2) := by decide +kernel
theorem c285_428 : cd 285 428 = some (.aload_n 2, 1) := by decide +kernel
theorem c285_429 : cd 285 429 = some (.invokevirtual 50, 3) := by decide +kernel
theorem m285_50 : cVf 285 50 = some (157, 1, true) := by decide +kernel
theorem mo157 : (0, 7) = (0, mC 157) := by decide +kernel
theorem c285_432 : cd 285 432 = some (.iload 5, 2) := by decide +kernel
theorem c285_434 : cd 285 434 = some (.if_icmp .eq 5, 3) := by decide +kernel
theorem c285_439 : cd 285 439 = some (.iload 5, 2) := by decide +kernel
theorem c285_441 : cd 285 441 = some (.ifCond .ne 15, 3) := by decide +kernel
theorem c285_444 : cd 285 444 = some (.aload_n 3, 1) := by decide +kernel
theorem c285_445 : cd 285 445 = some (.iconst 0, 1) := by decide +kernel
theorem c285_446 : cd 285 446 = some (.laload, 1) := by decide +kernel
theorem c285_447 : cd 285 447 = some (.iload 6, 2) := by decide +kernel
theorem c285_449 : cd 285 449 = some (.i2l, 1) := by decide +kernel
theorem c285_450 : cd 285 450 = some (.lcmp, 1) := by decide +kernel
theorem c285_451 : cd 285 451 = some (.ifCond .eq 5, 3) := by decide +kernel
theorem c285_454 : cd 285 454 = some (.iconst 0, 1) := by decide +kernel
theorem c285_455 : cd 285 455 = some (.ireturn, 1) := by decide +kernel
theorem c285_437 : cd 285 437 = some (.iconst 0, 1) := by decide +kernel
theorem c285_438 : cd 285 438 = some (.ireturn, 1) := by decide +kernel
theorem c285_456 : cd 285 456 = some (.goto 1861, 3) := by decide +kernel
theorem c285_459 : cd 285 459 = some (.aload_n 1, 1) := by decide +kernel
theorem c285_460 : cd 285 460 = some (.aload_n 0, 1) := by decide +kernel
theorem c285_461 : cd 285 461 = some (.iload 4, 2) := by decide +kernel
theorem c285_463 : cd 285 463 = some (.iconst 1, 1) := by decide +kernel
theorem c285_464 : cd 285 464 = some (.iadd, 1) := by decide +kernel
theorem c285_465 : cd 285 465 = some (.iaload, 1) := by decide +kernel
theorem c285_466 : cd 285 466 = some (.aload_n 0, 1) := by decide +kernel
theorem c285_467 : cd 285 467 = some (.iload 4, 2) := by decide +kernel
theorem c285_469 : cd 285 469 = some (.iconst 2, 1) := by decide +kernel
theorem c285_470 : cd 285 470 = some (.iadd, 1) := by decide +kernel
theorem c285_471 : cd 285 471 = some (.iaload, 1) := by decide +kernel
theorem c285_472 : cd 285 472 = some (.aload_n 3, 1) := by decide +kernel
theorem c285_473 : cd 285 473 = some (.invokestatic 54, 3) := by decide +kernel
theorem c285_476 : cd 285 476 = some (.istore 5, 2) := by decide +kernel
theorem c285_478 : cd 285 478 = some (.aload_n 2, 1) := by decide +kernel
theorem c285_479 : cd 285 479 = some (.aload_n 0, 1) := by decide +kernel
theorem c285_480 : cd 285 480 = some (.iload 4, 2) := by decide +kernel
theorem c285_482 : cd 285 482 = some (.iconst 1, 1) := by decide +kernel
theorem c285_483 : cd 285 483 = some (.iadd, 1) := by decide +kernel
theorem c285_484 : cd 285 484 = some (.iaload, 1) := by decide +kernel
theorem c285_485 : cd 285 485 = some (.aload_n 0, 1) := by decide +kernel
theorem c285_486 : cd 285 486 = some (.iload 4, 2) := by decide +kernel
theorem c285_488 : cd 285 488 = some (.iconst 2, 1) := by decide +kernel
theorem c285_489 : cd 285 489 = some (.iadd, 1) := by decide +kernel
theorem c285_490 : cd 285 490 = some (.iaload, 1) := by decide +kernel
theorem c285_491 : cd 285 491 = some (.invokevirtual 56, 3) := by decide +kernel
theorem m285_56 : cVf 285 56 = some (225, 3, true) := by decide +kernel
theorem mo225 : (0, 7) = (0, mC 225) := by decide +kernel
theorem c285_494 : cd 285 494 = some (.istore 6, 2) := by decide +kernel
theorem c285_496 : cd 285 496 = some (.aload_n 2, 1) := by decide +kernel
theorem c285_497 : cd 285 497 = some (.invokevirtual 50, 3) := by decide +kernel
theorem c285_500 : cd 285 500 = some (.iload 5, 2) := by decide +kernel
theorem c285_502 : cd 285 502 = some (.if_icmp .eq 5, 3) := by decide +kernel
theorem c285_507 : cd 285 507 = some (.iload 5, 2) := by decide +kernel
theorem c285_509 : cd 285 509 = some (.ifCond .ne 15, 3) := by decide +kernel
theorem c285_512 : cd 285 512 = some (.aload_n 3, 1) := by decide +kernel
theorem c285_513 : cd 285 513 = some (.iconst 0, 1) := by decide +kernel
theorem c285_514 : cd 285 514 = some (.laload, 1) := by decide +kernel
theorem c285_515 : cd 285 515 = some (.iload 6, 2) := by decide +kernel
theorem c285_517 : cd 285 517 = some (.i2l, 1) := by decide +kernel
theorem c285_518 : cd 285 518 = some (.lcmp, 1) := by decide +kernel
theorem c285_519 : cd 285 519 = some (.ifCond .eq 5, 3) := by decide +kernel
theorem c285_522 : cd 285 522 = some (.iconst 0, 1) := by decide +kernel
theorem c285_523 : cd 285 523 = some (.ireturn, 1) := by decide +kernel
theorem c285_505 : cd 285 505 = some (.iconst 0, 1) := by decide +kernel
theorem c285_506 : cd 285 506 = some (.ireturn, 1) := by decide +kernel
theorem c285_524 : cd 285 524 = some (.goto 1793, 3) := by decide +kernel
theorem c285_527 : cd 285 527 = some (.aload_n 1, 1) := by decide +kernel
theorem c285_528 : cd 285 528 = some (.aload_n 0, 1) := by decide +kernel
theorem c285_529 : cd 285 529 = some (.iload 4, 2) := by decide +kernel
theorem c285_531 : cd 285 531 = some (.iconst 1, 1) := by decide +kernel
theorem c285_532 : cd 285 532 = some (.iadd, 1) := by decide +kernel
theorem c285_533 : cd 285 533 = some (.iaload, 1) := by decide +kernel
theorem c285_534 : cd 285 534 = some (.aload_n 0, 1) := by decide +kernel
theorem c285_535 : cd 285 535 = some (.iload 4, 2) := by decide +kernel
theorem c285_537 : cd 285 537 = some (.iconst 2, 1) := by decide +kernel
theorem c285_538 : cd 285 538 = some (.iadd, 1) := by decide +kernel
theorem c285_539 : cd 285 539 = some (.iaload, 1) := by decide +kernel
theorem c285_540 : cd 285 540 = some (.aload_n 3, 1) := by decide +kernel
theorem c285_541 : cd 285 541 = some (.invokestatic 57, 3) := by decide +kernel
theorem c285_544 : cd 285 544 = some (.istore 5, 2) := by decide +kernel
theorem c285_546 : cd 285 546 = some (.aload_n 2, 1) := by decide +kernel
theorem c285_547 : cd 285 547 = some (.aload_n 0, 1) := by decide +kernel
theorem c285_548 : cd 285 548 = some (.iload 4, 2) := by decide +kernel
theorem c285_550 : cd 285 550 = some (.iconst 1, 1) := by decide +kernel
theorem c285_551 : cd 285 551 = some (.iadd, 1) := by decide +kernel
theorem c285_552 : cd 285 552 = some (.iaload, 1) := by decide +kernel
theorem c285_553 : cd 285 553 = some (.aload_n 0, 1) := by decide +kernel
theorem c285_554 : cd 285 554 = some (.iload 4, 2) := by decide +kernel
theorem c285_556 : cd 285 556 = some (.iconst 2, 1) := by decide +kernel
theorem c285_557 : cd 285 557 = some (.iadd, 1) := by decide +kernel
theorem c285_558 : cd 285 558 = some (.iaload, 1) := by decide +kernel
theorem c285_559 : cd 285 559 = some (.invokevirtual 59, 3) := by decide +kernel
theorem m285_59 : cVf 285 59 = some (226, 3, true) := by decide +kernel
theorem mo226 : (0, 7) = (0, mC 226) := by decide +kernel
theorem c285_562 : cd 285 562 = some (.istore 6, 2) := by decide +kernel
theorem c285_564 : cd 285 564 = some (.aload_n 2, 1) := by decide +kernel
theorem c285_565 : cd 285 565 = some (.invokevirtual 50, 3) := by decide +kernel
theorem c285_568 : cd 285 568 = some (.iload 5, 2) := by decide +kernel
theorem c285_570 : cd 285 570 = some (.if_icmp .eq 5, 3) := by decide +kernel
theorem c285_575 : cd 285 575 = some (.iload 5, 2) := by decide +kernel
theorem c285_577 : cd 285 577 = some (.ifCond .ne 15, 3) := by decide +kernel
theorem c285_580 : cd 285 580 = some (.aload_n 3, 1) := by decide +kernel
theorem c285_581 : cd 285 581 = some (.iconst 0, 1) := by decide +kernel
theorem c285_582 : cd 285 582 = some (.laload, 1) := by decide +kernel
theorem c285_583 : cd 285 583 = some (.iload 6, 2) := by decide +kernel
theorem c285_585 : cd 285 585 = some (.i2l, 1) := by decide +kernel
theorem c285_586 : cd 285 586 = some (.lcmp, 1) := by decide +kernel
theorem c285_587 : cd 285 587 = some (.ifCond .eq 5, 3) := by decide +kernel
theorem c285_590 : cd 285 590 = some (.iconst 0, 1) := by decide +kernel
theorem c285_591 : cd 285 591 = some (.ireturn, 1) := by decide +kernel
theorem c285_573 : cd 285 573 = some (.iconst 0, 1) := by decide +kernel
theorem c285_574 : cd 285 574 = some (.ireturn, 1) := by decide +kernel
theorem c285_592 : cd 285 592 = some (.goto 1725, 3) := by decide +kernel
theorem c285_595 : cd 285 595 = some (.aload_n 1, 1) := by decide +kernel
theorem c285_596 : cd 285 596 = some (.aload_n 0, 1) := by decide +kernel
theorem c285_597 : cd 285 597 = some (.iload 4, 2) := by decide +kernel
theorem c285_599 : cd 285 599 = some (.iconst 1, 1) := by decide +kernel
theorem c285_600 : cd 285 600 = some (.iadd, 1) := by decide +kernel
theorem c285_601 : cd 285 601 = some (.iaload, 1) := by decide +kernel
theorem c285_602 : cd 285 602 = some (.aload_n 0, 1) := by decide +kernel
theorem c285_603 : cd 285 603 = some (.iload 4, 2) := by decide +kernel
theorem c285_605 : cd 285 605 = some (.iconst 2, 1) := by decide +kernel
theorem c285_606 : cd 285 606 = some (.iadd, 1) := by decide +kernel
theorem c285_607 : cd 285 607 = some (.iaload, 1) := by decide +kernel
theorem c285_608 : cd 285 608 = some (.aload_n 3, 1) := by decide +kernel
theorem c285_609 : cd 285 609 = some (.invokestatic 60, 3) := by decide +kernel
theorem c285_612 : cd 285 612 = some (.istore 5, 2) := by decide +kernel
theorem c285_614 : cd 285 614 = some (.aload_n 2, 1) := by decide +kernel
theorem c285_615 : cd 285 615 = some (.aload_n 0, 1) := by decide +kernel
theorem c285_616 : cd 285 616 = some (.iload 4, 2) := by decide +kernel
theorem c285_618 : cd 285 618 = some (.iconst 1, 1) := by decide +kernel
theorem c285_619 : cd 285 619 = some (.iadd, 1) := by decide +kernel
theorem c285_620 : cd 285 620 = some (.iaload, 1) := by decide +kernel
theorem c285_621 : cd 285 621 = some (.aload_n 0, 1) := by decide +kernel
theorem c285_622 : cd 285 622 = some (.iload 4, 2) := by decide +kernel
theorem c285_624 : cd 285 624 = some (.iconst 2, 1) := by decide +kernel
theorem c285_625 : cd 285 625 = some (.iadd, 1) := by decide +kernel
theorem c285_626 : cd 285 626 = some (.iaload, 1) := by decide +kernel
theorem c285_627 : cd 285 627 = some (.invokevirtual 62, 3) := by decide +kernel
theorem m285_62 : cVf 285 62 = some (227, 3, true) := by decide +kernel
theorem mo227 : (0, 7) = (0, mC 227) := by decide +kernel
theorem c285_630 : cd 285 630 = some (.istore 6, 2) := by decide +kernel
theorem c285_632 : cd 285 632 = some (.aload_n 2, 1) := by decide +kernel
theorem c285_633 : cd 285 633 = some (.invokevirtual 50, 3) := by decide +kernel
theorem c285_636 : cd 285 636 = some (.iload 5, 2) := by decide +kernel
theorem c285_638 : cd 285 638 = some (.if_icmp .eq 5, 3) := by decide +kernel
theorem c285_643 : cd 285 643 = some (.iload 5, 2) := by decide +kernel
theorem c285_645 : cd 285 645 = some (.ifCond .ne 15, 3) := by decide +kernel
theorem c285_648 : cd 285 648 = some (.aload_n 3, 1) := by decide +kernel
theorem c285_649 : cd 285 649 = some (.iconst 0, 1) := by decide +kernel
theorem c285_650 : cd 285 650 = some (.laload, 1) := by decide +kernel
theorem c285_651 : cd 285 651 = some (.iload 6, 2) := by decide +kernel
theorem c285_653 : cd 285 653 = some (.i2l, 1) := by decide +kernel
theorem c285_654 : cd 285 654 = some (.lcmp, 1) := by decide +kernel
theorem c285_655 : cd 285 655 = some (.ifCond .eq 5, 3) := by decide +kernel
theorem c285_658 : cd 285 658 = some (.iconst 0, 1) := by decide +kernel
theorem c285_659 : cd 285 659 = some (.ireturn, 1) := by decide +kernel
theorem c285_641 : cd 285 641 = some (.iconst 0, 1) := by decide +kernel
theorem c285_642 : cd 285 642 = some (.ireturn, 1) := by decide +kernel
theorem c285_660 : cd 285 660 = some (.goto 1657, 3) := by decide +kernel
theorem c285_663 : cd 285 663 = some (.aload_n 1, 1) := by decide +kernel
theorem c285_664 : cd 285 664 = some (.aload_n 0, 1) := by decide +kernel
theorem c285_665 : cd 285 665 = some (.iload 4, 2) := by decide +kernel
theorem c285_667 : cd 285 667 = some (.iconst 1, 1) := by decide +kernel
theorem c285_668 : cd 285 668 = some (.iadd, 1) := by decide +kernel
theorem c285_669 : cd 285 669 = some (.iaload, 1) := by decide +kernel
theorem c285_670 : cd 285 670 = some (.aload_n 0, 1) := by decide +kernel
theorem c285_671 : cd 285 671 = some (.iload 4, 2) := by decide +kernel
theorem c285_673 : cd 285 673 = some (.iconst 2, 1) := by decide +kernel
theorem c285_674 : cd 285 674 = some (.iadd, 1) := by decide +kernel
theorem c285_675 : cd 285 675 = some (.iaload, 1) := by decide +kernel
theorem c285_676 : cd 285 676 = some (.invokevirtual 63, 3) := by decide +kernel
theorem m285_63 : cVf 285 63 = some (97, 3, true) := by decide +kernel
theorem mo97 : (0, 6) = (0, mC 97) := by decide +kernel
theorem c285_679 : cd 285 679 = some (.aload_n 2, 1) := by decide +kernel
theorem c285_680 : cd 285 680 = some (.aload_n 0, 1) := by decide +kernel
theorem c285_681 : cd 285 681 = some (.iload 4, 2) := by decide +kernel
theorem c285_683 : cd 285 683 = some (.iconst 1, 1) := by decide +kernel
theorem c285_684 : cd 285 684 = some (.iadd, 1) := by decide +kernel
theorem c285_685 : cd 285 685 = some (.iaload, 1) := by decide +kernel
theorem c285_686 : cd 285 686 = some (.aload_n 0, 1) := by decide +kernel
theorem c285_687 : cd 285 687 = some (.iload 4, 2) := by decide +kernel
theorem c285_689 : cd 285 689 = some (.iconst 2, 1) := by decide +kernel
theorem c285_690 : cd 285 690 = some (.iadd, 1) := by decide +kernel
theorem c285_691 : cd 285 691 = some (.iaload, 1) := by decide +kernel
theorem c285_692 : cd 285 692 = some (.invokevirtual 66, 3) := by decide +kernel
theorem m285_66 : cVf 285 66 = some (228, 3, true) := by decide +kernel
theorem mo228 : (0, 7) = (0, mC 228) := by decide +kernel
theorem c285_695 : cd 285 695 = some (.if_icmp .eq 1622, 3) := by decide +kernel
theorem c285_698 : cd 285 698 = some (.iconst 0, 1) := by decide +kernel
theorem c285_699 : cd 285 699 = some (.ireturn, 1) := by decide +kernel
theorem c285_700 : cd 285 700 = some (.aload_n 1, 1) := by decide +kernel
theorem c285_701 : cd 285 701 = some (.aload_n 0, 1) := by decide +kernel
theorem c285_702 : cd 285 702 = some (.iload 4, 2) := by decide +kernel
theorem c285_704 : cd 285 704 = some (.iconst 1, 1) := by decide +kernel
theorem c285_705 : cd 285 705 = some (.iadd, 1) := by decide +kernel
theorem c285_706 : cd 285 706 = some (.iaload, 1) := by decide +kernel
theorem c285_707 : cd 285 707 = some (.aload_n 0, 1) := by decide +kernel
theorem c285_708 : cd 285 708 = some (.iload 4, 2) := by decide +kernel
theorem c285_710 : cd 285 710 = some (.iconst 2, 1) := by decide +kernel
theorem c285_711 : cd 285 711 = some (.iadd, 1) := by decide +kernel
theorem c285_712 : cd 285 712 = some (.iaload, 1) := by decide +kernel
theorem c285_713 : cd 285 713 = some (.invokevirtual 67, 3) := by decide +kernel
theorem m285_67 : cVf 285 67 = some (98, 3, true) := by decide +kernel
theorem mo98 : (0, 6) = (0, mC 98) := by decide +kernel
theorem c285_716 : cd 285 716 = some (.aload_n 2, 1) := by decide +kernel
theorem c285_717 : cd 285 717 = some (.aload_n 0, 1) := by decide +kernel
theorem c285_718 : cd 285 718 = some (.iload 4, 2) := by decide +kernel
theorem c285_720 : cd 285 720 = some (.iconst 1, 1) := by decide +kernel
theorem c285_721 : cd 285 721 = some (.iadd, 1) := by decide +kernel
theorem c285_722 : cd 285 722 = some (.iaload, 1) := by decide +kernel
theorem c285_723 : cd 285 723 = some (.aload_n 0, 1) := by decide +kernel
theorem c285_724 : cd 285 724 = some (.iload 4, 2) := by decide +kernel
theorem c285_726 : cd 285 726 = some (.iconst 2, 1) := by decide +kernel
theorem c285_727 : cd 285 727 = some (.iadd, 1) := by decide +kernel
theorem c285_728 : cd 285 728 = some (.iaload, 1) := by decide +kernel
theorem c285_729 : cd 285 729 = some (.invokevirtual 70, 3) := by decide +kernel
theorem m285_70 : cVf 285 70 = some (229, 3, true) := by decide +kernel
theorem mo229 : (0, 7) = (0, mC 229) := by decide +kernel
theorem c285_732 : cd 285 732 = some (.if_icmp .eq 1585, 3) := by decide +kernel
theorem c285_735 : cd 285 735 = some (.iconst 0, 1) := by decide +kernel
theorem c285_736 : cd 285 736 = some (.ireturn, 1) := by decide +kernel
theorem c285_737 : cd 285 737 = some (.aload_n 1, 1) := by decide +kernel
theorem c285_738 : cd 285 738 = some (.aload_n 0, 1) := by decide +kernel
theorem c285_739 : cd 285 739 = some (.iload 4, 2) := by decide +kernel
theorem c285_741 : cd 285 741 = some (.iconst 1, 1) := by decide +kernel
theorem c285_742 : cd 285 742 = some (.iadd, 1) := by decide +kernel
theorem c285_743 : cd 285 743 = some (.iaload, 1) := by decide +kernel
theorem c285_744 : cd 285 744 = some (.aload_n 0, 1) := by decide +kernel
theorem c285_745 : cd 285 745 = some (.iload 4, 2) := by decide +kernel
theorem c285_747 : cd 285 747 = some (.iconst 2, 1) := by decide +kernel
theorem c285_748 : cd 285 748 = some (.iadd, 1) := by decide +kernel
theorem c285_749 : cd 285 749 = some (.iaload, 1) := by decide +kernel
theorem c285_750 : cd 285 750 = some (.invokevirtual 71, 3) := by decide +kernel
theorem m285_71 : cVf 285 71 = some (99, 3, true) := by decide +kernel
theorem mo99 : (0, 6) = (0, mC 99) := by decide +kernel
theorem c285_753 : cd 285 753 = some (.aload_n 2, 1) := by decide +kernel
theorem c285_754 : cd 285 754 = some (.aload_n 0, 1) := by decide +kernel
theorem c285_755 : cd 285 755 = some (.iload 4, 2) := by decide +kernel
theorem c285_757 : cd 285 757 = some (.iconst 1, 1) := by decide +kernel
theorem c285_758 : cd 285 758 = some (.iadd, 1) := by decide +kernel
theorem c285_759 : cd 285 759 = some (.iaload, 1) := by decide +kernel
theorem c285_760 : cd 285 760 = some (.aload_n 0, 1) := by decide +kernel
theorem c285_761 : cd 285 761 = some (.iload 4, 2) := by decide +kernel
theorem c285_763 : cd 285 763 = some (.iconst 2, 1) := by decide +kernel
theorem c285_764 : cd 285 764 = some (.iadd, 1) := by decide +kernel
theorem c285_765 : cd 285 765 = some (.iaload, 1) := by decide +kernel
theorem c285_766 : cd 285 766 = some (.invokevirtual 74, 3) := by decide +kernel
theorem m285_74 : cVf 285 74 = some (231, 3, true) := by decide +kernel
theorem mo231 : (0, 7) = (0, mC 231) := by decide +kernel
theorem c285_769 : cd 285 769 = some (.if_icmp .eq 1548, 3) := by decide +kernel
theorem c285_772 : cd 285 772 = some (.iconst 0, 1) := by decide +kernel
theorem c285_773 : cd 285 773 = some (.ireturn, 1) := by decide +kernel
theorem c285_774 : cd 285 774 = some (.aload_n 1, 1) := by decide +kernel
theorem c285_775 : cd 285 775 = some (.aload_n 0, 1) := by decide +kernel
theorem c285_776 : cd 285 776 = some (.iload 4, 2) := by decide +kernel
theorem c285_778 : cd 285 778 = some (.iconst 1, 1) := by decide +kernel
theorem c285_779 : cd 285 779 = some (.iadd, 1) := by decide +kernel
theorem c285_780 : cd 285 780 = some (.iaload, 1) := by decide +kernel
theorem c285_781 : cd 285 781 = some (.invokevirtual 75, 3) := by decide +kernel
theorem m285_75 : cVf 285 75 = some (100, 2, true) := by decide +kernel
theorem mo100 : (0, 6) = (0, mC 100) := by decide +kernel
theorem c285_784 : cd 285 784 = some (.aload_n 2, 1) := by decide +kernel
theorem c285_785 : cd 285 785 = some (.aload_n 0, 1) := by decide +kernel
theorem c285_786 : cd 285 786 = some (.iload 4, 2) := by decide +kernel
theorem c285_788 : cd 285 788 = some (.iconst 1, 1) := by decide +kernel
theorem c285_789 : cd 285 789 = some (.iadd, 1) := by decide +kernel
theorem c285_790 : cd 285 790 = some (.iaload, 1) := by decide +kernel
theorem c285_791 : cd 285 791 = some (.invokevirtual 79, 3) := by decide +kernel
theorem m285_79 : cVf 285 79 = some (234, 2, true) := by decide +kernel
theorem mo234 : (0, 7) = (0, mC 234) := by decide +kernel
theorem c285_794 : cd 285 794 = some (.if_icmp .eq 1523, 3) := by decide +kernel
theorem c285_797 : cd 285 797 = some (.iconst 0, 1) := by decide +kernel
theorem c285_798 : cd 285 798 = some (.ireturn, 1) := by decide +kernel
theorem c285_799 : cd 285 799 = some (.aload_n 1, 1) := by decide +kernel
theorem c285_800 : cd 285 800 = some (.aload_n 0, 1) := by decide +kernel
theorem c285_801 : cd 285 801 = some (.iload 4, 2) := by decide +kernel
theorem c285_803 : cd 285 803 = some (.iconst 1, 1) := by decide +kernel
theorem c285_804 : cd 285 804 = some (.iadd, 1) := by decide +kernel
theorem c285_805 : cd 285 805 = some (.iaload, 1) := by decide +kernel
theorem c285_806 : cd 285 806 = some (.invokevirtual 80, 3) := by decide +kernel
theorem m285_80 : cVf 285 80 = some (101, 2, true) := by decide +kernel
theorem mo101 : (0, 6) = (0, mC 101) := by decide +kernel
theorem c285_809 : cd 285 809 = some (.aload_n 2, 1) := by decide +kernel
theorem c285_810 : cd 285 810 = some (.aload_n 0, 1) := by decide +kernel
theorem c285_811 : cd 285 811 = some (.iload 4, 2) := by decide +kernel
theorem c285_813 : cd 285 813 = some (.iconst 1, 1) := by decide +kernel
theorem c285_814 : cd 285 814 = some (.iadd, 1) := by decide +kernel
theorem c285_815 : cd 285 815 = some (.iaload, 1) := by decide +kernel
theorem c285_816 : cd 285 816 = some (.invokevirtual 83, 3) := by decide +kernel
theorem m285_83 : cVf 285 83 = some (235, 2, true) := by decide +kernel
theorem mo235 : (0, 7) = (0, mC 235) := by decide +kernel
theorem c285_819 : cd 285 819 = some (.if_icmp .eq 1498, 3) := by decide +kernel
theorem c285_822 : cd 285 822 = some (.iconst 0, 1) := by decide +kernel
theorem c285_823 : cd 285 823 = some (.ireturn, 1) := by decide +kernel
theorem c285_824 : cd 285 824 = some (.aload_n 1, 1) := by decide +kernel
theorem c285_825 : cd 285 825 = some (.aload_n 0, 1) := by decide +kernel
theorem c285_826 : cd 285 826 = some (.iload 4, 2) := by decide +kernel
theorem c285_828 : cd 285 828 = some (.iconst 1, 1) := by decide +kernel
theorem c285_829 : cd 285 829 = some (.iadd, 1) := by decide +kernel
theorem c285_830 : cd 285 830 = some (.iaload, 1) := by decide +kernel
theorem c285_831 : cd 285 831 = some (.invokevirtual 84, 3) := by decide +kernel
theorem m285_84 : cVf 285 84 = some (102, 2, true) := by decide +kernel
theorem mo102 : (0, 6) = (0, mC 102) := by decide +kernel
theorem c285_834 : cd 285 834 = some (.aload_n 2, 1) := by decide +kernel
theorem c285_835 : cd 285 835 = some (.aload_n 0, 1) := by decide +kernel
theorem c285_836 : cd 285 836 = some (.iload 4, 2) := by decide +kernel
theorem c285_838 : cd 285 838 = some (.iconst 1, 1) := by decide +kernel
theorem c285_839 : cd 285 839 = some (.iadd, 1) := by decide +kernel
theorem c285_840 : cd 285 840 = some (.iaload, 1) := by decide +kernel
theorem c285_841 : cd 285 841 = some (.invokevirtual 87, 3) := by decide +kernel
theorem m285_87 : cVf 285 87 = some (236, 2, true) := by decide +kernel
theorem mo236 : (0, 7) = (0, mC 236) := by decide +kernel
theorem c285_844 : cd 285 844 = some (.if_icmp .eq 1473, 3) := by decide +kernel
theorem c285_847 : cd 285 847 = some (.iconst 0, 1) := by decide +kernel
theorem c285_848 : cd 285 848 = some (.ireturn, 1) := by decide +kernel
theorem c285_849 : cd 285 849 = some (.aload_n 1, 1) := by decide +kernel
theorem c285_850 : cd 285 850 = some (.aload_n 0, 1) := by decide +kernel
theorem c285_851 : cd 285 851 = some (.iload 4, 2) := by decide +kernel
theorem c285_853 : cd 285 853 = some (.iconst 1, 1) := by decide +kernel
theorem c285_854 : cd 285 854 = some (.iadd, 1) := by decide +kernel
theorem c285_855 : cd 285 855 = some (.iaload, 1) := by decide +kernel
theorem c285_856 : cd 285 856 = some (.invokevirtual 88, 3) := by decide +kernel
theorem m285_88 : cVf 285 88 = some (103, 2, true) := by decide +kernel
theorem mo103 : (0, 6) = (0, mC 103) := by decide +kernel
theorem c285_859 : cd 285 859 = some (.aload_n 2, 1) := by decide +kernel
theorem c285_860 : cd 285 860 = some (.aload_n 0, 1) := by decide +kernel
theorem c285_861 : cd 285 861 = some (.iload 4, 2) := by decide +kernel
theorem c285_863 : cd 285 863 = some (.iconst 1, 1) := by decide +kernel
theorem c285_864 : cd 285 864 = some (.iadd, 1) := by decide +kernel
theorem c285_865 : cd 285 865 = some (.iaload, 1) := by decide +kernel
theorem c285_866 : cd 285 866 = some (.invokevirtual 91, 3) := by decide +kernel
theorem m285_91 : cVf 285 91 = some (237, 2, true) := by decide +kernel
theorem mo237 : (0, 7) = (0, mC 237) := by decide +kernel
theorem c285_869 : cd 285 869 = some (.if_icmp .eq 1448, 3) := by decide +kernel
theorem c285_872 : cd 285 872 = some (.iconst 0, 1) := by decide +kernel
theorem c285_873 : cd 285 873 = some (.ireturn, 1) := by decide +kernel
theorem c285_874 : cd 285 874 = some (.aload_n 1, 1) := by decide +kernel
theorem c285_875 : cd 285 875 = some (.invokevirtual 92, 3) := by decide +kernel
theorem m285_92 : cVf 285 92 = some (104, 1, true) := by decide +kernel
theorem mo104 : (0, 6) = (0, mC 104) := by decide +kernel
theorem c285_878 : cd 285 878 = some (.aload_n 2, 1) := by decide +kernel
theorem c285_879 : cd 285 879 = some (.invokevirtual 95, 3) := by decide +kernel
theorem m285_95 : cVf 285 95 = some (238, 1, true) := by decide +kernel
theorem mo238 : (0, 7) = (0, mC 238) := by decide +kernel
theorem c285_882 : cd 285 882 = some (.if_icmp .eq 1435, 3) := by decide +kernel
theorem c285_885 : cd 285 885 = some (.iconst 0, 1) := by decide +kernel
theorem c285_886 : cd 285 886 = some (.ireturn, 1) := by decide +kernel
theorem c285_887 : cd 285 887 = some (.aload_n 1, 1) := by decide +kernel
theorem c285_888 : cd 285 888 = some (.aload_n 0, 1) := by decide +kernel
theorem c285_889 : cd 285 889 = some (.iload 4, 2) := by decide +kernel
theorem c285_891 : cd 285 891 = some (.iconst 1, 1) := by decide +kernel
theorem c285_892 : cd 285 892 = some (.iadd, 1) := by decide +kernel
theorem c285_893 : cd 285 893 = some (.iaload, 1) := by decide +kernel
theorem c285_894 : cd 285 894 = some (.aload_n 0, 1) := by decide +kernel
theorem c285_895 : cd 285 895 = some (.iload 4, 2) := by decide +kernel
theorem c285_897 : cd 285 897 = some (.iconst 2, 1) := by decide +kernel
theorem c285_898 : cd 285 898 = some (.iadd, 1) := by decide +kernel
theorem c285_899 : cd 285 899 = some (.iaload, 1) := by decide +kernel
theorem c285_900 : cd 285 900 = some (.invokevirtual 96, 3) := by decide +kernel
theorem m285_96 : cVf 285 96 = some (105, 3, true) := by decide +kernel
theorem mo105 : (0, 6) = (0, mC 105) := by decide +kernel
theorem c285_903 : cd 285 903 = some (.aload_n 2, 1) := by decide +kernel
theorem c285_904 : cd 285 904 = some (.aload_n 0, 1) := by decide +kernel
theorem c285_905 : cd 285 905 = some (.iload 4, 2) := by decide +kernel
theorem c285_907 : cd 285 907 = some (.iconst 1, 1) := by decide +kernel
theorem c285_908 : cd 285 908 = some (.iadd, 1) := by decide +kernel
theorem c285_909 : cd 285 909 = some (.iaload, 1) := by decide +kernel
theorem c285_910 : cd 285 910 = some (.aload_n 0, 1) := by decide +kernel
theorem c285_911 : cd 285 911 = some (.iload 4, 2) := by decide +kernel
theorem c285_913 : cd 285 913 = some (.iconst 2, 1) := by decide +kernel
theorem c285_914 : cd 285 914 = some (.iadd, 1) := by decide +kernel
theorem c285_915 : cd 285 915 = some (.iaload, 1) := by decide +kernel
theorem c285_916 : cd 285 916 = some (.invokevirtual 99, 3) := by decide +kernel
theorem m285_99 : cVf 285 99 = some (240, 3, true) := by decide +kernel
theorem mo240 : (0, 7) = (0, mC 240) := by decide +kernel
theorem c285_919 : cd 285 919 = some (.if_icmp .eq 1398, 3) := by decide +kernel
theorem c285_922 : cd 285 922 = some (.iconst 0, 1) := by decide +kernel
theorem c285_923 : cd 285 923 = some (.ireturn, 1) := by decide +kernel
theorem c285_924 : cd 285 924 = some (.aload_n 1, 1) := by decide +kernel
theorem c285_925 : cd 285 925 = some (.aload_n 0, 1) := by decide +kernel
theorem c285_926 : cd 285 926 = some (.iload 4, 2) := by decide +kernel
theorem c285_928 : cd 285 928 = some (.iconst 1, 1) := by decide +kernel
theorem c285_929 : cd 285 929 = some (.iadd, 1) := by decide +kernel
theorem c285_930 : cd 285 930 = some (.iaload, 1) := by decide +kernel
theorem c285_931 : cd 285 931 = some (.aload_n 0, 1) := by decide +kernel
theorem c285_932 : cd 285 932 = some (.iload 4, 2) := by decide +kernel
theorem c285_934 : cd 285 934 = some (.iconst 2, 1) := by decide +kernel
theorem c285_935 : cd 285 935 = some (.iadd, 1) := by decide +kernel
theorem c285_936 : cd 285 936 = some (.iaload, 1) := by decide +kernel
theorem c285_937 : cd 285 937 = some (.invokevirtual 100, 3) := by decide +kernel
theorem m285_100 : cVf 285 100 = some (106, 3, true) := by decide +kernel
theorem mo106 : (0, 6) = (0, mC 106) := by decide +kernel
theorem c285_940 : cd 285 940 = some (.aload_n 2, 1) := by decide +kernel
theorem c285_941 : cd 285 941 = some (.aload_n 0, 1) := by decide +kernel
theorem c285_942 : cd 285 942 = some (.iload 4, 2) := by decide +kernel
theorem c285_944 : cd 285 944 = some (.iconst 1, 1) := by decide +kernel
theorem c285_945 : cd 285 945 = some (.iadd, 1) := by decide +kernel
theorem c285_946 : cd 285 946 = some (.iaload, 1) := by decide +kernel
theorem c285_947 : cd 285 947 = some (.aload_n 0, 1) := by decide +kernel
theorem c285_948 : cd 285 948 = some (.iload 4, 2) := by decide +kernel
theorem c285_950 : cd 285 950 = some (.iconst 2, 1) := by decide +kernel
theorem c285_951 : cd 285 951 = some (.iadd, 1) := by decide +kernel
theorem c285_952 : cd 285 952 = some (.iaload, 1) := by decide +kernel
theorem c285_953 : cd 285 953 = some (.invokevirtual 103, 3) := by decide +kernel
theorem m285_103 : cVf 285 103 = some (241, 3, true) := by decide +kernel
theorem mo241 : (0, 7) = (0, mC 241) := by decide +kernel
theorem c285_956 : cd 285 956 = some (.if_icmp .eq 1361, 3) := by decide +kernel
theorem c285_959 : cd 285 959 = some (.iconst 0, 1) := by decide +kernel
theorem c285_960 : cd 285 960 = some (.ireturn, 1) := by decide +kernel
theorem c285_961 : cd 285 961 = some (.aload_n 1, 1) := by decide +kernel
theorem c285_962 : cd 285 962 = some (.aload_n 0, 1) := by decide +kernel
theorem c285_963 : cd 285 963 = some (.iload 4, 2) := by decide +kernel
theorem c285_965 : cd 285 965 = some (.iconst 1, 1) := by decide +kernel
theorem c285_966 : cd 285 966 = some (.iadd, 1) := by decide +kernel
theorem c285_967 : cd 285 967 = some (.iaload, 1) := by decide +kernel
theorem c285_968 : cd 285 968 = some (.aload_n 0, 1) := by decide +kernel
theorem c285_969 : cd 285 969 = some (.iload 4, 2) := by decide +kernel
theorem c285_971 : cd 285 971 = some (.iconst 2, 1) := by decide +kernel
theorem c285_972 : cd 285 972 = some (.iadd, 1) := by decide +kernel
theorem c285_973 : cd 285 973 = some (.iaload, 1) := by decide +kernel
theorem c285_974 : cd 285 974 = some (.invokevirtual 104, 3) := by decide +kernel
theorem m285_104 : cVf 285 104 = some (110, 3, true) := by decide +kernel
theorem mo110 : (0, 6) = (0, mC 110) := by decide +kernel
theorem c285_977 : cd 285 977 = some (.aload_n 2, 1) := by decide +kernel
theorem c285_978 : cd 285 978 = some (.aload_n 0, 1) := by decide +kernel
theorem c285_979 : cd 285 979 = some (.iload 4, 2) := by decide +kernel
theorem c285_981 : cd 285 981 = some (.iconst 1, 1) := by decide +kernel
theorem c285_982 : cd 285 982 = some (.iadd, 1) := by decide +kernel
theorem c285_983 : cd 285 983 = some (.iaload, 1) := by decide +kernel
theorem c285_984 : cd 285 984 = some (.aload_n 0, 1) := by decide +kernel
theorem c285_985 : cd 285 985 = some (.iload 4, 2) := by decide +kernel
theorem c285_987 : cd 285 987 = some (.iconst 2, 1) := by decide +kernel
theorem c285_988 : cd 285 988 = some (.iadd, 1) := by decide +kernel
theorem c285_989 : cd 285 989 = some (.iaload, 1) := by decide +kernel
theorem c285_990 : cd 285 990 = some (.invokevirtual 107, 3) := by decide +kernel
theorem m285_107 : cVf 285 107 = some (242, 3, true) := by decide +kernel
theorem mo242 : (0, 7) = (0, mC 242) := by decide +kernel
theorem c285_993 : cd 285 993 = some (.if_icmp .eq 1324, 3) := by decide +kernel
theorem c285_996 : cd 285 996 = some (.iconst 0, 1) := by decide +kernel
theorem c285_997 : cd 285 997 = some (.ireturn, 1) := by decide +kernel
theorem c285_998 : cd 285 998 = some (.aload_n 1, 1) := by decide +kernel
theorem c285_999 : cd 285 999 = some (.aload_n 0, 1) := by decide +kernel
theorem c285_1000 : cd 285 1000 = some (.iload 4, 2) := by decide +kernel
theorem c285_1002 : cd 285 1002 = some (.iconst 1, 1) := by decide +kernel
theorem c285_1003 : cd 285 1003 = some (.iadd, 1) := by decide +kernel
theorem c285_1004 : cd 285 1004 = some (.iaload, 1) := by decide +kernel
theorem c285_1005 : cd 285 1005 = some (.aload_n 0, 1) := by decide +kernel
theorem c285_1006 : cd 285 1006 = some (.iload 4, 2) := by decide +kernel
theorem c285_1008 : cd 285 1008 = some (.iconst 2, 1) := by decide +kernel
theorem c285_1009 : cd 285 1009 = some (.iadd, 1) := by decide +kernel
theorem c285_1010 : cd 285 1010 = some (.iaload, 1) := by decide +kernel
theorem c285_1011 : cd 285 1011 = some (.invokevirtual 108, 3) := by decide +kernel
theorem m285_108 : cVf 285 108 = some (111, 3, true) := by decide +kernel
theorem mo111 : (0, 6) = (0, mC 111) := by decide +kernel
theorem c285_1014 : cd 285 1014 = some (.aload_n 2, 1) := by decide +kernel
theorem c285_1015 : cd 285 1015 = some (.aload_n 0, 1) := by decide +kernel
theorem c285_1016 : cd 285 1016 = some (.iload 4, 2) := by decide +kernel
theorem c285_1018 : cd 285 1018 = some (.iconst 1, 1) := by decide +kernel
theorem c285_1019 : cd 285 1019 = some (.iadd, 1) := by decide +kernel
theorem c285_1020 : cd 285 1020 = some (.iaload, 1) := by decide +kernel
theorem c285_1021 : cd 285 1021 = some (.aload_n 0, 1) := by decide +kernel
theorem c285_1022 : cd 285 1022 = some (.iload 4, 2) := by decide +kernel
theorem c285_1024 : cd 285 1024 = some (.iconst 2, 1) := by decide +kernel
theorem c285_1025 : cd 285 1025 = some (.iadd, 1) := by decide +kernel
theorem c285_1026 : cd 285 1026 = some (.iaload, 1) := by decide +kernel
theorem c285_1027 : cd 285 1027 = some (.invokevirtual 111, 3) := by decide +kernel
theorem m285_111 : cVf 285 111 = some (243, 3, true) := by decide +kernel
theorem mo243 : (0, 7) = (0, mC 243) := by decide +kernel
theorem c285_1030 : cd 285 1030 = some (.if_icmp .eq 1287, 3) := by decide +kernel
theorem c285_1033 : cd 285 1033 = some (.iconst 0, 1) := by decide +kernel
theorem c285_1034 : cd 285 1034 = some (.ireturn, 1) := by decide +kernel
theorem c285_1035 : cd 285 1035 = some (.aload_n 1, 1) := by decide +kernel
theorem c285_1036 : cd 285 1036 = some (.aload_n 0, 1) := by decide +kernel
theorem c285_1037 : cd 285 1037 = some (.iload 4, 2) := by decide +kernel
theorem c285_1039 : cd 285 1039 = some (.iconst 1, 1) := by decide +kernel
theorem c285_1040 : cd 285 1040 = some (.iadd, 1) := by decide +kernel
theorem c285_1041 : cd 285 1041 = some (.iaload, 1) := by decide +kernel
theorem c285_1042 : cd 285 1042 = some (.aload_n 0, 1) := by decide +kernel
theorem c285_1043 : cd 285 1043 = some (.iload 4, 2) := by decide +kernel
theorem c285_1045 : cd 285 1045 = some (.iconst 2, 1) := by decide +kernel
theorem c285_1046 : cd 285 1046 = some (.iadd, 1) := by decide +kernel
theorem c285_1047 : cd 285 1047 = some (.iaload, 1) := by decide +kernel
theorem c285_1048 : cd 285 1048 = some (.invokevirtual 112, 3) := by decide +kernel
theorem m285_112 : cVf 285 112 = some (112, 3, true) := by decide +kernel
theorem mo112 : (0, 6) = (0, mC 112) := by decide +kernel
theorem c285_1051 : cd 285 1051 = some (.aload_n 2, 1) := by decide +kernel
theorem c285_1052 : cd 285 1052 = some (.aload_n 0, 1) := by decide +kernel
theorem c285_1053 : cd 285 1053 = some (.iload 4, 2) := by decide +kernel
theorem c285_1055 : cd 285 1055 = some (.iconst 1, 1) := by decide +kernel
theorem c285_1056 : cd 285 1056 = some (.iadd, 1) := by decide +kernel
theorem c285_1057 : cd 285 1057 = some (.iaload, 1) := by decide +kernel
theorem c285_1058 : cd 285 1058 = some (.aload_n 0, 1) := by decide +kernel
theorem c285_1059 : cd 285 1059 = some (.iload 4, 2) := by decide +kernel
theorem c285_1061 : cd 285 1061 = some (.iconst 2, 1) := by decide +kernel
theorem c285_1062 : cd 285 1062 = some (.iadd, 1) := by decide +kernel
theorem c285_1063 : cd 285 1063 = some (.iaload, 1) := by decide +kernel
theorem c285_1064 : cd 285 1064 = some (.invokevirtual 115, 3) := by decide +kernel
theorem m285_115 : cVf 285 115 = some (244, 3, true) := by decide +kernel
theorem mo244 : (0, 7) = (0, mC 244) := by decide +kernel
theorem c285_1067 : cd 285 1067 = some (.if_icmp .eq 1250, 3) := by decide +kernel
theorem c285_1070 : cd 285 1070 = some (.iconst 0, 1) := by decide +kernel
theorem c285_1071 : cd 285 1071 = some (.ireturn, 1) := by decide +kernel
theorem c285_1072 : cd 285 1072 = some (.aload_n 1, 1) := by decide +kernel
theorem c285_1073 : cd 285 1073 = some (.aload_n 0, 1) := by decide +kernel
theorem c285_1074 : cd 285 1074 = some (.iload 4, 2) := by decide +kernel
theorem c285_1076 : cd 285 1076 = some (.iconst 1, 1) := by decide +kernel
theorem c285_1077 : cd 285 1077 = some (.iadd, 1) := by decide +kernel
theorem c285_1078 : cd 285 1078 = some (.iaload, 1) := by decide +kernel
theorem c285_1079 : cd 285 1079 = some (.aload_n 0, 1) := by decide +kernel
theorem c285_1080 : cd 285 1080 = some (.iload 4, 2) := by decide +kernel
theorem c285_1082 : cd 285 1082 = some (.iconst 2, 1) := by decide +kernel
theorem c285_1083 : cd 285 1083 = some (.iadd, 1) := by decide +kernel
theorem c285_1084 : cd 285 1084 = some (.iaload, 1) := by decide +kernel
theorem c285_1085 : cd 285 1085 = some (.aload_n 0, 1) := by decide +kernel
theorem c285_1086 : cd 285 1086 = some (.iload 4, 2) := by decide +kernel
theorem c285_1088 : cd 285 1088 = some (.iconst 3, 1) := by decide +kernel
theorem c285_1089 : cd 285 1089 = some (.iadd, 1) := by decide +kernel
theorem c285_1090 : cd 285 1090 = some (.iaload, 1) := by decide +kernel
theorem c285_1091 : cd 285 1091 = some (.invokevirtual 116, 3) := by decide +kernel
theorem m285_116 : cVf 285 116 = some (118, 4, true) := by decide +kernel
theorem mo118 : (0, 6) = (0, mC 118) := by decide +kernel
theorem c285_1094 : cd 285 1094 = some (.aload_n 2, 1) := by decide +kernel
theorem c285_1095 : cd 285 1095 = some (.aload_n 0, 1) := by decide +kernel
theorem c285_1096 : cd 285 1096 = some (.iload 4, 2) := by decide +kernel
theorem c285_1098 : cd 285 1098 = some (.iconst 1, 1) := by decide +kernel
theorem c285_1099 : cd 285 1099 = some (.iadd, 1) := by decide +kernel
theorem c285_1100 : cd 285 1100 = some (.iaload, 1) := by decide +kernel
theorem c285_1101 : cd 285 1101 = some (.aload_n 0, 1) := by decide +kernel
theorem c285_1102 : cd 285 1102 = some (.iload 4, 2) := by decide +kernel
theorem c285_1104 : cd 285 1104 = some (.iconst 2, 1) := by decide +kernel
theorem c285_1105 : cd 285 1105 = some (.iadd, 1) := by decide +kernel
theorem c285_1106 : cd 285 1106 = some (.iaload, 1) := by decide +kernel
theorem c285_1107 : cd 285 1107 = some (.aload_n 0, 1) := by decide +kernel
theorem c285_1108 : cd 285 1108 = some (.iload 4, 2) := by decide +kernel
theorem c285_1110 : cd 285 1110 = some (.iconst 3, 1) := by decide +kernel
theorem c285_1111 : cd 285 1111 = some (.iadd, 1) := by decide +kernel
theorem c285_1112 : cd 285 1112 = some (.iaload, 1) := by decide +kernel
theorem c285_1113 : cd 285 1113 = some (.invokevirtual 120, 3) := by decide +kernel
theorem m285_120 : cVf 285 120 = some (205, 4, true) := by decide +kernel
theorem mo205 : (0, 7) = (0, mC 205) := by decide +kernel
theorem c285_1116 : cd 285 1116 = some (.if_icmp .eq 1201, 3) := by decide +kernel
theorem c285_1119 : cd 285 1119 = some (.iconst 0, 1) := by decide +kernel
theorem c285_1120 : cd 285 1120 = some (.ireturn, 1) := by decide +kernel
theorem c285_1121 : cd 285 1121 = some (.aload_n 1, 1) := by decide +kernel
theorem c285_1122 : cd 285 1122 = some (.aload_n 0, 1) := by decide +kernel
theorem c285_1123 : cd 285 1123 = some (.iload 4, 2) := by decide +kernel
theorem c285_1125 : cd 285 1125 = some (.iconst 1, 1) := by decide +kernel
theorem c285_1126 : cd 285 1126 = some (.iadd, 1) := by decide +kernel
theorem c285_1127 : cd 285 1127 = some (.iaload, 1) := by decide +kernel
theorem c285_1128 : cd 285 1128 = some (.aload_n 0, 1) := by decide +kernel
theorem c285_1129 : cd 285 1129 = some (.iload 4, 2) := by decide +kernel
theorem c285_1131 : cd 285 1131 = some (.iconst 2, 1) := by decide +kernel
theorem c285_1132 : cd 285 1132 = some (.iadd, 1) := by decide +kernel
theorem c285_1133 : cd 285 1133 = some (.iaload, 1) := by decide +kernel
theorem c285_1134 : cd 285 1134 = some (.aload_n 0, 1) := by decide +kernel
theorem c285_1135 : cd 285 1135 = some (.iload 4, 2) := by decide +kernel
theorem c285_1137 : cd 285 1137 = some (.iconst 3, 1) := by decide +kernel
theorem c285_1138 : cd 285 1138 = some (.iadd, 1) := by decide +kernel
theorem c285_1139 : cd 285 1139 = some (.iaload, 1) := by decide +kernel
theorem c285_1140 : cd 285 1140 = some (.aload_n 0, 1) := by decide +kernel
theorem c285_1141 : cd 285 1141 = some (.iload 4, 2) := by decide +kernel
theorem c285_1143 : cd 285 1143 = some (.iconst 4, 1) := by decide +kernel
theorem c285_1144 : cd 285 1144 = some (.iadd, 1) := by decide +kernel
theorem c285_1145 : cd 285 1145 = some (.iaload, 1) := by decide +kernel
theorem c285_1146 : cd 285 1146 = some (.invokevirtual 121, 3) := by decide +kernel
theorem m285_121 : cVf 285 121 = some (119, 5, true) := by decide +kernel
theorem mo119 : (0, 6) = (0, mC 119) := by decide +kernel
theorem c285_1149 : cd 285 1149 = some (.aload_n 2, 1) := by decide +kernel
theorem c285_1150 : cd 285 1150 = some (.aload_n 0, 1) := by decide +kernel
theorem c285_1151 : cd 285 1151 = some (.iload 4, 2) := by decide +kernel
theorem c285_1153 : cd 285 1153 = some (.iconst 1, 1) := by decide +kernel
theorem c285_1154 : cd 285 1154 = some (.iadd, 1) := by decide +kernel
theorem c285_1155 : cd 285 1155 = some (.iaload, 1) := by decide +kernel
theorem c285_1156 : cd 285 1156 = some (.aload_n 0, 1) := by decide +kernel
theorem c285_1157 : cd 285 1157 = some (.iload 4, 2) := by decide +kernel
theorem c285_1159 : cd 285 1159 = some (.iconst 2, 1) := by decide +kernel
theorem c285_1160 : cd 285 1160 = some (.iadd, 1) := by decide +kernel
theorem c285_1161 : cd 285 1161 = some (.iaload, 1) := by decide +kernel
theorem c285_1162 : cd 285 1162 = some (.aload_n 0, 1) := by decide +kernel
theorem c285_1163 : cd 285 1163 = some (.iload 4, 2) := by decide +kernel
theorem c285_1165 : cd 285 1165 = some (.iconst 3, 1) := by decide +kernel
theorem c285_1166 : cd 285 1166 = some (.iadd, 1) := by decide +kernel
theorem c285_1167 : cd 285 1167 = some (.iaload, 1) := by decide +kernel
theorem c285_1168 : cd 285 1168 = some (.aload_n 0, 1) := by decide +kernel
theorem c285_1169 : cd 285 1169 = some (.iload 4, 2) := by decide +kernel
theorem c285_1171 : cd 285 1171 = some (.iconst 4, 1) := by decide +kernel
theorem c285_1172 : cd 285 1172 = some (.iadd, 1) := by decide +kernel
theorem c285_1173 : cd 285 1173 = some (.iaload, 1) := by decide +kernel
theorem c285_1174 : cd 285 1174 = some (.invokevirtual 125, 3) := by decide +kernel
theorem m285_125 : cVf 285 125 = some (206, 5, true) := by decide +kernel
theorem mo206 : (0, 7) = (0, mC 206) := by decide +kernel
theorem c285_1177 : cd 285 1177 = some (.if_icmp .eq 1140, 3) := by decide +kernel
theorem c285_1180 : cd 285 1180 = some (.iconst 0, 1) := by decide +kernel
theorem c285_1181 : cd 285 1181 = some (.ireturn, 1) := by decide +kernel
theorem c285_1182 : cd 285 1182 = some (.aload_n 1, 1) := by decide +kernel
theorem c285_1183 : cd 285 1183 = some (.aload_n 0, 1) := by decide +kernel
theorem c285_1184 : cd 285 1184 = some (.iload 4, 2) := by decide +kernel
theorem c285_1186 : cd 285 1186 = some (.iconst 1, 1) := by decide +kernel
theorem c285_1187 : cd 285 1187 = some (.iadd, 1) := by decide +kernel
theorem c285_1188 : cd 285 1188 = some (.iaload, 1) := by decide +kernel
theorem c285_1189 : cd 285 1189 = some (.aload_n 0, 1) := by decide +kernel
theorem c285_1190 : cd 285 1190 = some (.iload 4, 2) := by decide +kernel
theorem c285_1192 : cd 285 1192 = some (.iconst 2, 1) := by decide +kernel
theorem c285_1193 : cd 285 1193 = some (.iadd, 1) := by decide +kernel
theorem c285_1194 : cd 285 1194 = some (.iaload, 1) := by decide +kernel
theorem c285_1195 : cd 285 1195 = some (.aload_n 0, 1) := by decide +kernel
theorem c285_1196 : cd 285 1196 = some (.iload 4, 2) := by decide +kernel
theorem c285_1198 : cd 285 1198 = some (.iconst 3, 1) := by decide +kernel
theorem c285_1199 : cd 285 1199 = some (.iadd, 1) := by decide +kernel
theorem c285_1200 : cd 285 1200 = some (.iaload, 1) := by decide +kernel
theorem c285_1201 : cd 285 1201 = some (.invokevirtual 126, 3) := by decide +kernel
theorem m285_126 : cVf 285 126 = some (120, 4, true) := by decide +kernel
theorem mo120 : (0, 6) = (0, mC 120) := by decide +kernel
theorem c285_1204 : cd 285 1204 = some (.aload_n 2, 1) := by decide +kernel
theorem c285_1205 : cd 285 1205 = some (.aload_n 0, 1) := by decide +kernel
theorem c285_1206 : cd 285 1206 = some (.iload 4, 2) := by decide +kernel
theorem c285_1208 : cd 285 1208 = some (.iconst 1, 1) := by decide +kernel
theorem c285_1209 : cd 285 1209 = some (.iadd, 1) := by decide +kernel
theorem c285_1210 : cd 285 1210 = some (.iaload, 1) := by decide +kernel
theorem c285_1211 : cd 285 1211 = some (.aload_n 0, 1) := by decide +kernel
theorem c285_1212 : cd 285 1212 = some (.iload 4, 2) := by decide +kernel
theorem c285_1214 : cd 285 1214 = some (.iconst 2, 1) := by decide +kernel
theorem c285_1215 : cd 285 1215 = some (.iadd, 1) := by decide +kernel
theorem c285_1216 : cd 285 1216 = some (.iaload, 1) := by decide +kernel
theorem c285_1217 : cd 285 1217 = some (.aload_n 0, 1) := by decide +kernel
theorem c285_1218 : cd 285 1218 = some (.iload 4, 2) := by decide +kernel
theorem c285_1220 : cd 285 1220 = some (.iconst 3, 1) := by decide +kernel
theorem c285_1221 : cd 285 1221 = some (.iadd, 1) := by decide +kernel
theorem c285_1222 : cd 285 1222 = some (.iaload, 1) := by decide +kernel
theorem c285_1223 : cd 285 1223 = some (.invokevirtual 129, 3) := by decide +kernel
theorem m285_129 : cVf 285 129 = some (207, 4, true) := by decide +kernel
theorem mo207 : (0, 7) = (0, mC 207) := by decide +kernel
theorem c285_1226 : cd 285 1226 = some (.if_icmp .eq 1091, 3) := by decide +kernel
theorem c285_1229 : cd 285 1229 = some (.iconst 0, 1) := by decide +kernel
theorem c285_1230 : cd 285 1230 = some (.ireturn, 1) := by decide +kernel
theorem c285_1231 : cd 285 1231 = some (.aload_n 1, 1) := by decide +kernel
theorem c285_1232 : cd 285 1232 = some (.aload_n 0, 1) := by decide +kernel
theorem c285_1233 : cd 285 1233 = some (.iload 4, 2) := by decide +kernel
theorem c285_1235 : cd 285 1235 = some (.iconst 1, 1) := by decide +kernel
theorem c285_1236 : cd 285 1236 = some (.iadd, 1) := by decide +kernel
theorem c285_1237 : cd 285 1237 = some (.iaload, 1) := by decide +kernel
theorem c285_1238 : cd 285 1238 = some (.aload_n 0, 1) := by decide +kernel
theorem c285_1239 : cd 285 1239 = some (.iload 4, 2) := by decide +kernel
theorem c285_1241 : cd 285 1241 = some (.iconst 2, 1) := by decide +kernel
theorem c285_1242 : cd 285 1242 = some (.iadd, 1) := by decide +kernel
theorem c285_1243 : cd 285 1243 = some (.iaload, 1) := by decide +kernel
theorem c285_1244 : cd 285 1244 = some (.invokevirtual 130, 3) := by decide +kernel
theorem m285_130 : cVf 285 130 = some (117, 3, true) := by decide +kernel
theorem mo117 : (0, 6) = (0, mC 117) := by decide +kernel
theorem c285_1247 : cd 285 1247 = some (.aload_n 2, 1) := by decide +kernel
theorem c285_1248 : cd 285 1248 = some (.aload_n 0, 1) := by decide +kernel
theorem c285_1249 : cd 285 1249 = some (.iload 4, 2) := by decide +kernel
theorem c285_1251 : cd 285 1251 = some (.iconst 1, 1) := by decide +kernel
theorem c285_1252 : cd 285 1252 = some (.iadd, 1) := by decide +kernel
theorem c285_1253 : cd 285 1253 = some (.iaload, 1) := by decide +kernel
theorem c285_1254 : cd 285 1254 = some (.aload_n 0, 1) := by decide +kernel
theorem c285_1255 : cd 285 1255 = some (.iload 4, 2) := by decide +kernel
theorem c285_1257 : cd 285 1257 = some (.iconst 2, 1) := by decide +kernel
theorem c285_1258 : cd 285 1258 = some (.iadd, 1) := by decide +kernel
theorem c285_1259 : cd 285 1259 = some (.iaload, 1) := by decide +kernel
theorem c285_1260 : cd 285 1260 = some (.invokevirtual 133, 3) := by decide +kernel
theorem m285_133 : cVf 285 133 = some (245, 3, true) := by decide +kernel
theorem mo245 : (0, 7) = (0, mC 245) := by decide +kernel
theorem c285_1263 : cd 285 1263 = some (.if_icmp .eq 1054, 3) := by decide +kernel
theorem c285_1266 : cd 285 1266 = some (.iconst 0, 1) := by decide +kernel
theorem c285_1267 : cd 285 1267 = some (.ireturn, 1) := by decide +kernel
theorem c285_1268 : cd 285 1268 = some (.aload_n 1, 1) := by decide +kernel
theorem c285_1269 : cd 285 1269 = some (.aload_n 0, 1) := by decide +kernel
theorem c285_1270 : cd 285 1270 = some (.iload 4, 2) := by decide +kernel
theorem c285_1272 : cd 285 1272 = some (.iconst 1, 1) := by decide +kernel
theorem c285_1273 : cd 285 1273 = some (.iadd, 1) := by decide +kernel
theorem c285_1274 : cd 285 1274 = some (.iaload, 1) := by decide +kernel
theorem c285_1275 : cd 285 1275 = some (.invokevirtual 134, 3) := by decide +kernel
theorem m285_134 : cVf 285 134 = some (130, 2, true) := by decide +kernel
theorem mo130 : (0, 6) = (0, mC 130) := by decide +kernel
theorem c285_1278 : cd 285 1278 = some (.aload_n 2, 1) := by decide +kernel
theorem c285_1279 : cd 285 1279 = some (.aload_n 0, 1) := by decide +kernel
theorem c285_1280 : cd 285 1280 = some (.iload 4, 2) := by decide +kernel
theorem c285_1282 : cd 285 1282 = some (.iconst 1, 1) := by decide +kernel
theorem c285_1283 : cd 285 1283 = some (.iadd, 1) := by decide +kernel
theorem c285_1284 : cd 285 1284 = some (.iaload, 1) := by decide +kernel
theorem c285_1285 : cd 285 1285 = some (.invokevirtual 137, 3) := by decide +kernel
theorem m285_137 : cVf 285 137 = some (249, 2, true) := by decide +kernel
theorem mo249 : (0, 7) = (0, mC 249) := by decide +kernel
theorem c285_1288 : cd 285 1288 = some (.if_icmp .eq 1029, 3) := by decide +kernel
theorem c285_1291 : cd 285 1291 = some (.iconst 0, 1) := by decide +kernel
theorem c285_1292 : cd 285 1292 = some (.ireturn, 1) := by decide +kernel
theorem c285_1293 : cd 285 1293 = some (.aload_n 1, 1) := by decide +kernel
theorem c285_1294 : cd 285 1294 = some (.aload_n 0, 1) := by decide +kernel
theorem c285_1295 : cd 285 1295 = some (.iload 4, 2) := by decide +kernel
theorem c285_1297 : cd 285 1297 = some (.iconst 1, 1) := by decide +kernel
theorem c285_1298 : cd 285 1298 = some (.iadd, 1) := by decide +kernel
theorem c285_1299 : cd 285 1299 = some (.iaload, 1) := by decide +kernel
theorem c285_1300 : cd 285 1300 = some (.aload_n 0, 1) := by decide +kernel
theorem c285_1301 : cd 285 1301 = some (.iload 4, 2) := by decide +kernel
theorem c285_1303 : cd 285 1303 = some (.iconst 2, 1) := by decide +kernel
theorem c285_1304 : cd 285 1304 = some (.iadd, 1) := by decide +kernel
theorem c285_1305 : cd 285 1305 = some (.iaload, 1) := by decide +kernel
theorem c285_1306 : cd 285 1306 = some (.invokevirtual 138, 3) := by decide +kernel
theorem m285_138 : cVf 285 138 = some (131, 3, true) := by decide +kernel
theorem mo131 : (0, 6) = (0, mC 131) := by decide +kernel
theorem c285_1309 : cd 285 1309 = some (.aload_n 2, 1) := by decide +kernel
theorem c285_1310 : cd 285 1310 = some (.aload_n 0, 1) := by decide +kernel
theorem c285_1311 : cd 285 1311 = some (.iload 4, 2) := by decide +kernel
theorem c285_1313 : cd 285 1313 = some (.iconst 1, 1) := by decide +kernel
theorem c285_1314 : cd 285 1314 = some (.iadd, 1) := by decide +kernel
theorem c285_1315 : cd 285 1315 = some (.iaload, 1) := by decide +kernel
theorem c285_1316 : cd 285 1316 = some (.aload_n 0, 1) := by decide +kernel
theorem c285_1317 : cd 285 1317 = some (.iload 4, 2) := by decide +kernel
theorem c285_1319 : cd 285 1319 = some (.iconst 2, 1) := by decide +kernel
theorem c285_1320 : cd 285 1320 = some (.iadd, 1) := by decide +kernel
theorem c285_1321 : cd 285 1321 = some (.iaload, 1) := by decide +kernel
theorem c285_1322 : cd 285 1322 = some (.invokevirtual 141, 3) := by decide +kernel
theorem m285_141 : cVf 285 141 = some (250, 3, true) := by decide +kernel
theorem mo250 : (0, 7) = (0, mC 250) := by decide +kernel
theorem c285_1325 : cd 285 1325 = some (.if_icmp .eq 992, 3) := by decide +kernel
theorem c285_1328 : cd 285 1328 = some (.iconst 0, 1) := by decide +kernel
theorem c285_1329 : cd 285 1329 = some (.ireturn, 1) := by decide +kernel
theorem c285_1330 : cd 285 1330 = some (.aload_n 1, 1) := by decide +kernel
theorem c285_1331 : cd 285 1331 = some (.aload_n 0, 1) := by decide +kernel
theorem c285_1332 : cd 285 1332 = some (.iload 4, 2) := by decide +kernel
theorem c285_1334 : cd 285 1334 = some (.iconst 1, 1) := by decide +kernel
theorem c285_1335 : cd 285 1335 = some (.iadd, 1) := by decide +kernel
theorem c285_1336 : cd 285 1336 = some (.iaload, 1) := by decide +kernel
theorem c285_1337 : cd 285 1337 = some (.aload_n 0, 1) := by decide +kernel
theorem c285_1338 : cd 285 1338 = some (.iload 4, 2) := by decide +kernel
theorem c285_1340 : cd 285 1340 = some (.iconst 2, 1) := by decide +kernel
theorem c285_1341 : cd 285 1341 = some (.iadd, 1) := by decide +kernel
theorem c285_1342 : cd 285 1342 = some (.iaload, 1) := by decide +kernel
theorem c285_1343 : cd 285 1343 = some (.invokevirtual 142, 3) := by decide +kernel
theorem m285_142 : cVf 285 142 = some (132, 3, true) := by decide +kernel
theorem mo132 : (0, 6) = (0, mC 132) := by decide +kernel
theorem c285_1346 : cd 285 1346 = some (.aload_n 2, 1) := by decide +kernel
theorem c285_1347 : cd 285 1347 = some (.aload_n 0, 1) := by decide +kernel
theorem c285_1348 : cd 285 1348 = some (.iload 4, 2) := by decide +kernel
theorem c285_1350 : cd 285 1350 = some (.iconst 1, 1) := by decide +kernel
theorem c285_1351 : cd 285 1351 = some (.iadd, 1) := by decide +kernel
theorem c285_1352 : cd 285 1352 = some (.iaload, 1) := by decide +kernel
theorem c285_1353 : cd 285 1353 = some (.aload_n 0, 1) := by decide +kernel
theorem c285_1354 : cd 285 1354 = some (.iload 4, 2) := by decide +kernel
theorem c285_1356 : cd 285 1356 = some (.iconst 2, 1) := by decide +kernel
theorem c285_1357 : cd 285 1357 = some (.iadd, 1) := by decide +kernel
theorem c285_1358 : cd 285 1358 = some (.iaload, 1) := by decide +kernel
theorem c285_1359 : cd 285 1359 = some (.invokevirtual 145, 3) := by decide +kernel
theorem m285_145 : cVf 285 145 = some (251, 3, true) := by decide +kernel
theorem mo251 : (0, 7) = (0, mC 251) := by decide +kernel
theorem c285_1362 : cd 285 1362 = some (.if_icmp .eq 955, 3) := by decide +kernel
theorem c285_1365 : cd 285 1365 = some (.iconst 0, 1) := by decide +kernel
theorem c285_1366 : cd 285 1366 = some (.ireturn, 1) := by decide +kernel
theorem c285_1367 : cd 285 1367 = some (.aload_n 1, 1) := by decide +kernel
theorem c285_1368 : cd 285 1368 = some (.aload_n 0, 1) := by decide +kernel
theorem c285_1369 : cd 285 1369 = some (.iload 4, 2) := by decide +kernel
theorem c285_1371 : cd 285 1371 = some (.iconst 1, 1) := by decide +kernel
theorem c285_1372 : cd 285 1372 = some (.iadd, 1) := by decide +kernel
theorem c285_1373 : cd 285 1373 = some (.iaload, 1) := by decide +kernel
theorem c285_1374 : cd 285 1374 = some (.aload_n 0, 1) := by decide +kernel
theorem c285_1375 : cd 285 1375 = some (.iload 4, 2) := by decide +kernel
theorem c285_1377 : cd 285 1377 = some (.iconst 2, 1) := by decide +kernel
theorem c285_1378 : cd 285 1378 = some (.iadd, 1) := by decide +kernel
theorem c285_1379 : cd 285 1379 = some (.iaload, 1) := by decide +kernel
theorem c285_1380 : cd 285 1380 = some (.invokevirtual 146, 3) := by decide +kernel
theorem m285_146 : cVf 285 146 = some (133, 3, true) := by decide +kernel
theorem mo133 : (0, 6) = (0, mC 133) := by decide +kernel
theorem c285_1383 : cd 285 1383 = some (.aload_n 2, 1) := by decide +kernel
theorem c285_1384 : cd 285 1384 = some (.aload_n 0, 1) := by decide +kernel
theorem c285_1385 : cd 285 1385 = some (.iload 4, 2) := by decide +kernel
theorem c285_1387 : cd 285 1387 = some (.iconst 1, 1) := by decide +kernel
theorem c285_1388 : cd 285 1388 = some (.iadd, 1) := by decide +kernel
theorem c285_1389 : cd 285 1389 = some (.iaload, 1) := by decide +kernel
theorem c285_1390 : cd 285 1390 = some (.aload_n 0, 1) := by decide +kernel
theorem c285_1391 : cd 285 1391 = some (.iload 4, 2) := by decide +kernel
theorem c285_1393 : cd 285 1393 = some (.iconst 2, 1) := by decide +kernel
theorem c285_1394 : cd 285 1394 = some (.iadd, 1) := by decide +kernel
theorem c285_1395 : cd 285 1395 = some (.iaload, 1) := by decide +kernel
theorem c285_1396 : cd 285 1396 = some (.invokevirtual 149, 3) := by decide +kernel
theorem m285_149 : cVf 285 149 = some (252, 3, true) := by decide +kernel
theorem mo252 : (0, 7) = (0, mC 252) := by decide +kernel
theorem c285_1399 : cd 285 1399 = some (.if_icmp .eq 918, 3) := by decide +kernel
theorem c285_1402 : cd 285 1402 = some (.iconst 0, 1) := by decide +kernel
theorem c285_1403 : cd 285 1403 = some (.ireturn, 1) := by decide +kernel
theorem c285_1404 : cd 285 1404 = some (.aload_n 1, 1) := by decide +kernel
theorem c285_1405 : cd 285 1405 = some (.aload_n 0, 1) := by decide +kernel
theorem c285_1406 : cd 285 1406 = some (.iload 4, 2) := by decide +kernel
theorem c285_1408 : cd 285 1408 = some (.iconst 1, 1) := by decide +kernel
theorem c285_1409 : cd 285 1409 = some (.iadd, 1) := by decide +kernel
theorem c285_1410 : cd 285 1410 = some (.iaload, 1) := by decide +kernel
theorem c285_1411 : cd 285 1411 = some (.aload_n 0, 1) := by decide +kernel
theorem c285_1412 : cd 285 1412 = some (.iload 4, 2) := by decide +kernel
theorem c285_1414 : cd 285 1414 = some (.iconst 2, 1) := by decide +kernel
theorem c285_1415 : cd 285 1415 = some (.iadd, 1) := by decide +kernel
theorem c285_1416 : cd 285 1416 = some (.iaload, 1) := by decide +kernel
theorem c285_1417 : cd 285 1417 = some (.invokevirtual 150, 3) := by decide +kernel
theorem m285_150 : cVf 285 150 = some (139, 3, true) := by decide +kernel
theorem mo139 : (0, 6) = (0, mC 139) := by decide +kernel
theorem c285_1420 : cd 285 1420 = some (.aload_n 2, 1) := by decide +kernel
theorem c285_1421 : cd 285 1421 = some (.aload_n 0, 1) := by decide +kernel
theorem c285_1422 : cd 285 1422 = some (.iload 4, 2) := by decide +kernel
theorem c285_1424 : cd 285 1424 = some (.iconst 1, 1) := by decide +kernel
theorem c285_1425 : cd 285 1425 = some (.iadd, 1) := by decide +kernel
theorem c285_1426 : cd 285 1426 = some (.iaload, 1) := by decide +kernel
theorem c285_1427 : cd 285 1427 = some (.aload_n 0, 1) := by decide +kernel
theorem c285_1428 : cd 285 1428 = some (.iload 4, 2) := by decide +kernel
theorem c285_1430 : cd 285 1430 = some (.iconst 2, 1) := by decide +kernel
theorem c285_1431 : cd 285 1431 = some (.iadd, 1) := by decide +kernel
theorem c285_1432 : cd 285 1432 = some (.iaload, 1) := by decide +kernel
theorem c285_1433 : cd 285 1433 = some (.invokevirtual 153, 3) := by decide +kernel
theorem m285_153 : cVf 285 153 = some (267, 3, true) := by decide +kernel
theorem mo267 : (0, 7) = (0, mC 267) := by decide +kernel
theorem c285_1436 : cd 285 1436 = some (.if_icmp .eq 881, 3) := by decide +kernel
theorem c285_1439 : cd 285 1439 = some (.iconst 0, 1) := by decide +kernel
theorem c285_1440 : cd 285 1440 = some (.ireturn, 1) := by decide +kernel
theorem c285_1441 : cd 285 1441 = some (.aload_n 1, 1) := by decide +kernel
theorem c285_1442 : cd 285 1442 = some (.aload_n 0, 1) := by decide +kernel
theorem c285_1443 : cd 285 1443 = some (.iload 4, 2) := by decide +kernel
theorem c285_1445 : cd 285 1445 = some (.iconst 1, 1) := by decide +kernel
theorem c285_1446 : cd 285 1446 = some (.iadd, 1) := by decide +kernel
theorem c285_1447 : cd 285 1447 = some (.iaload, 1) := by decide +kernel
theorem c285_1448 : cd 285 1448 = some (.invokevirtual 154, 3) := by decide +kernel
theorem m285_154 : cVf 285 154 = some (138, 2, true) := by decide +kernel
theorem mo138 : (0, 6) = (0, mC 138) := by decide +kernel
theorem c285_1451 : cd 285 1451 = some (.aload_n 2, 1) := by decide +kernel
theorem c285_1452 : cd 285 1452 = some (.aload_n 0, 1) := by decide +kernel
theorem c285_1453 : cd 285 1453 = some (.iload 4, 2) := by decide +kernel
theorem c285_1455 : cd 285 1455 = some (.iconst 1, 1) := by decide +kernel
theorem c285_1456 : cd 285 1456 = some (.iadd, 1) := by decide +kernel
theorem c285_1457 : cd 285 1457 = some (.iaload, 1) := by decide +kernel
theorem c285_1458 : cd 285 1458 = some (.invokevirtual 157, 3) := by decide +kernel
theorem m285_157 : cVf 285 157 = some (268, 2, true) := by decide +kernel
theorem mo268 : (0, 7) = (0, mC 268) := by decide +kernel
theorem c285_1461 : cd 285 1461 = some (.if_icmp .eq 856, 3) := by decide +kernel
theorem c285_1464 : cd 285 1464 = some (.iconst 0, 1) := by decide +kernel
theorem c285_1465 : cd 285 1465 = some (.ireturn, 1) := by decide +kernel
theorem c285_1466 : cd 285 1466 = some (.aload_n 1, 1) := by decide +kernel
theorem c285_1467 : cd 285 1467 = some (.aload_n 0, 1) := by decide +kernel
theorem c285_1468 : cd 285 1468 = some (.iload 4, 2) := by decide +kernel
theorem c285_1470 : cd 285 1470 = some (.iconst 1, 1) := by decide +kernel
theorem c285_1471 : cd 285 1471 = some (.iadd, 1) := by decide +kernel
theorem c285_1472 : cd 285 1472 = some (.iaload, 1) := by decide +kernel
theorem c285_1473 : cd 285 1473 = some (.aload_n 0, 1) := by decide +kernel
theorem c285_1474 : cd 285 1474 = some (.iload 4, 2) := by decide +kernel
theorem c285_1476 : cd 285 1476 = some (.iconst 2, 1) := by decide +kernel
theorem c285_1477 : cd 285 1477 = some (.iadd, 1) := by decide +kernel
theorem c285_1478 : cd 285 1478 = some (.iaload, 1) := by decide +kernel
theorem c285_1479 : cd 285 1479 = some (.invokevirtual 158, 3) := by decide +kernel
theorem m285_158 : cVf 285 158 = some (127, 3, true) := by decide +kernel
theorem mo127 : (0, 6) = (0, mC 127) := by decide +kernel
theorem c285_1482 : cd 285 1482 = some (.aload_n 2, 1) := by decide +kernel
theorem c285_1483 : cd 285 1483 = some (.aload_n 0, 1) := by decide +kernel
theorem c285_1484 : cd 285 1484 = some (.iload 4, 2) := by decide +kernel
theorem c285_1486 : cd 285 1486 = some (.iconst 1, 1) := by decide +kernel
theorem c285_1487 : cd 285 1487 = some (.iadd, 1) := by decide +kernel
theorem c285_1488 : cd 285 1488 = some (.iaload, 1) := by decide +kernel
theorem c285_1489 : cd 285 1489 = some (.aload_n 0, 1) := by decide +kernel
theorem c285_1490 : cd 285 1490 = some (.iload 4, 2) := by decide +kernel
theorem c285_1492 : cd 285 1492 = some (.iconst 2, 1) := by decide +kernel
theorem c285_1493 : cd 285 1493 = some (.iadd, 1) := by decide +kernel
theorem c285_1494 : cd 285 1494 = some (.iaload, 1) := by decide +kernel
theorem c285_1495 : cd 285 1495 = some (.invokevirtual 161, 3) := by decide +kernel
theorem m285_161 : cVf 285 161 = some (270, 3, true) := by decide +kernel
theorem mo270 : (0, 7) = (0, mC 270) := by decide +kernel
theorem c285_1498 : cd 285 1498 = some (.if_icmp .eq 819, 3) := by decide +kernel
theorem c285_1501 : cd 285 1501 = some (.iconst 0, 1) := by decide +kernel
theorem c285_1502 : cd 285 1502 = some (.ireturn, 1) := by decide +kernel
theorem c285_1503 : cd 285 1503 = some (.aload_n 1, 1) := by decide +kernel
theorem c285_1504 : cd 285 1504 = some (.aload_n 0, 1) := by decide +kernel
theorem c285_1505 : cd 285 1505 = some (.iload 4, 2) := by decide +kernel
theorem c285_1507 : cd 285 1507 = some (.iconst 1, 1) := by decide +kernel
theorem c285_1508 : cd 285 1508 = some (.iadd, 1) := by decide +kernel
theorem c285_1509 : cd 285 1509 = some (.iaload, 1) := by decide +kernel
theorem c285_1510 : cd 285 1510 = some (.aload_n 0, 1) := by decide +kernel
theorem c285_1511 : cd 285 1511 = some (.iload 4, 2) := by decide +kernel
theorem c285_1513 : cd 285 1513 = some (.iconst 2, 1) := by decide +kernel
theorem c285_1514 : cd 285 1514 = some (.iadd, 1) := by decide +kernel
theorem c285_1515 : cd 285 1515 = some (.iaload, 1) := by decide +kernel
theorem c285_1516 : cd 285 1516 = some (.invokevirtual 162, 3) := by decide +kernel
theorem m285_162 : cVf 285 162 = some (128, 3, true) := by decide +kernel
theorem mo128 : (0, 6) = (0, mC 128) := by decide +kernel
theorem c285_1519 : cd 285 1519 = some (.aload_n 2, 1) := by decide +kernel
theorem c285_1520 : cd 285 1520 = some (.aload_n 0, 1) := by decide +kernel
theorem c285_1521 : cd 285 1521 = some (.iload 4, 2) := by decide +kernel
theorem c285_1523 : cd 285 1523 = some (.iconst 1, 1) := by decide +kernel
theorem c285_1524 : cd 285 1524 = some (.iadd, 1) := by decide +kernel
theorem c285_1525 : cd 285 1525 = some (.iaload, 1) := by decide +kernel
theorem c285_1526 : cd 285 1526 = some (.aload_n 0, 1) := by decide +kernel
theorem c285_1527 : cd 285 1527 = some (.iload 4, 2) := by decide +kernel
theorem c285_1529 : cd 285 1529 = some (.iconst 2, 1) := by decide +kernel
theorem c285_1530 : cd 285 1530 = some (.iadd, 1) := by decide +kernel
theorem c285_1531 : cd 285 1531 = some (.iaload, 1) := by decide +kernel
theorem c285_1532 : cd 285 1532 = some (.invokevirtual 165, 3) := by decide +kernel
theorem m285_165 : cVf 285 165 = some (271, 3, true) := by decide +kernel
theorem mo271 : (0, 7) = (0, mC 271) := by decide +kernel
theorem c285_1535 : cd 285 1535 = some (.if_icmp .eq 782, 3) := by decide +kernel
theorem c285_1538 : cd 285 1538 = some (.iconst 0, 1) := by decide +kernel
theorem c285_1539 : cd 285 1539 = some (.ireturn, 1) := by decide +kernel
theorem c285_1540 : cd 285 1540 = some (.aload_n 1, 1) := by decide +kernel
theorem c285_1541 : cd 285 1541 = some (.aload_n 0, 1) := by decide +kernel
theorem c285_1542 : cd 285 1542 = some (.iload 4, 2) := by decide +kernel
theorem c285_1544 : cd 285 1544 = some (.iconst 1, 1) := by decide +kernel
theorem c285_1545 : cd 285 1545 = some (.iadd, 1) := by decide +kernel
theorem c285_1546 : cd 285 1546 = some (.iaload, 1) := by decide +kernel
theorem c285_1547 : cd 285 1547 = some (.aload_n 0, 1) := by decide +kernel
theorem c285_1548 : cd 285 1548 = some (.iload 4, 2) := by decide +kernel
theorem c285_1550 : cd 285 1550 = some (.iconst 2, 1) := by decide +kernel
theorem c285_1551 : cd 285 1551 = some (.iadd, 1) := by decide +kernel
theorem c285_1552 : cd 285 1552 = some (.iaload, 1) := by decide +kernel
theorem c285_1553 : cd 285 1553 = some (.invokevirtual 166, 3) := by decide +kernel
theorem m285_166 : cVf 285 166 = some (123, 3, true) := by decide +kernel
theorem mo123 : (0, 6) = (0, mC 123) := by decide +kernel
theorem c285_1556 : cd 285 1556 = some (.aload_n 2, 1) := by decide +kernel
theorem c285_1557 : cd 285 1557 = some (.aload_n 0, 1) := by decide +kernel
theorem c285_1558 : cd 285 1558 = some (.iload 4, 2) := by decide +kernel
theorem c285_1560 : cd 285 1560 = some (.iconst 1, 1) := by decide +kernel
theorem c285_1561 : cd 285 1561 = some (.iadd, 1) := by decide +kernel
theorem c285_1562 : cd 285 1562 = some (.iaload, 1) := by decide +kernel
theorem c285_1563 : cd 285 1563 = some (.aload_n 0, 1) := by decide +kernel
theorem c285_1564 : cd 285 1564 = some (.iload 4, 2) := by decide +kernel
theorem c285_1566 : cd 285 1566 = some (.iconst 2, 1) := by decide +kernel
theorem c285_1567 : cd 285 1567 = some (.iadd, 1) := by decide +kernel
theorem c285_1568 : cd 285 1568 = some (.iaload, 1) := by decide +kernel
theorem c285_1569 : cd 285 1569 = some (.invokevirtual 169, 3) := by decide +kernel
theorem m285_169 : cVf 285 169 = some (272, 3, true) := by decide +kernel
theorem mo272 : (0, 7) = (0, mC 272) := by decide +kernel
theorem c285_1572 : cd 285 1572 = some (.if_icmp .eq 745, 3) := by decide +kernel
theorem c285_1575 : cd 285 1575 = some (.iconst 0, 1) := by decide +kernel
theorem c285_1576 : cd 285 1576 = some (.ireturn, 1) := by decide +kernel
theorem c285_1577 : cd 285 1577 = some (.aload_n 1, 1) := by decide +kernel
theorem c285_1578 : cd 285 1578 = some (.aload_n 0, 1) := by decide +kernel
theorem c285_1579 : cd 285 1579 = some (.iload 4, 2) := by decide +kernel
theorem c285_1581 : cd 285 1581 = some (.iconst 1, 1) := by decide +kernel
theorem c285_1582 : cd 285 1582 = some (.iadd, 1) := by decide +kernel
theorem c285_1583 : cd 285 1583 = some (.iaload, 1) := by decide +kernel
theorem c285_1584 : cd 285 1584 = some (.invokevirtual 170, 3) := by decide +kernel
theorem m285_170 : cVf 285 170 = some (113, 2, true) := by decide +kernel
theorem mo113 : (0, 6) = (0, mC 113) := by decide +kernel
theorem c285_1587 : cd 285 1587 = some (.aload_n 2, 1) := by decide +kernel
theorem c285_1588 : cd 285 1588 = some (.aload_n 0, 1) := by decide +kernel
theorem c285_1589 : cd 285 1589 = some (.iload 4, 2) := by decide +kernel
theorem c285_1591 : cd 285 1591 = some (.iconst 1, 1) := by decide +kernel
theorem c285_1592 : cd 285 1592 = some (.iadd, 1) := by decide +kernel
theorem c285_1593 : cd 285 1593 = some (.iaload, 1) := by decide +kernel
theorem c285_1594 : cd 285 1594 = some (.invokevirtual 173, 3) := by decide +kernel
theorem m285_173 : cVf 285 173 = some (273, 2, true) := by decide +kernel
theorem mo273 : (0, 7) = (0, mC 273) := by decide +kernel
theorem c285_1597 : cd 285 1597 = some (.if_icmp .eq 720, 3) := by decide +kernel
theorem c285_1600 : cd 285 1600 = some (.iconst 0, 1) := by decide +kernel
theorem c285_1601 : cd 285 1601 = some (.ireturn, 1) := by decide +kernel
theorem c285_1602 : cd 285 1602 = some (.aload_n 1, 1) := by decide +kernel
theorem c285_1603 : cd 285 1603 = some (.aload_n 0, 1) := by decide +kernel
theorem c285_1604 : cd 285 1604 = some (.iload 4, 2) := by decide +kernel
theorem c285_1606 : cd 285 1606 = some (.iconst 1, 1) := by decide +kernel
theorem c285_1607 : cd 285 1607 = some (.iadd, 1) := by decide +kernel
theorem c285_1608 : cd 285 1608 = some (.iaload, 1) := by decide +kernel
theorem c285_1609 : cd 285 1609 = some (.invokevirtual 174, 3) := by decide +kernel
theorem m285_174 : cVf 285 174 = some (107, 2, true) := by decide +kernel
theorem mo107 : (0, 6) = (0, mC 107) := by decide +kernel
theorem c285_1612 : cd 285 1612 = some (.aload_n 2, 1) := by decide +kernel
theorem c285_1613 : cd 285 1613 = some (.aload_n 0, 1) := by decide +kernel
theorem c285_1614 : cd 285 1614 = some (.iload 4, 2) := by decide +kernel
theorem c285_1616 : cd 285 1616 = some (.iconst 1, 1) := by decide +kernel
theorem c285_1617 : cd 285 1617 = some (.iadd, 1) := by decide +kernel
theorem c285_1618 : cd 285 1618 = some (.iaload, 1) := by decide +kernel
theorem c285_1619 : cd 285 1619 = some (.invokevirtual 177, 3) := by decide +kernel
theorem m285_177 : cVf 285 177 = some (274, 2, true) := by decide +kernel
theorem mo274 : (0, 7) = (0, mC 274) := by decide +kernel
theorem c285_1622 : cd 285 1622 = some (.if_icmp .eq 695, 3) := by decide +kernel
theorem c285_1625 : cd 285 1625 = some (.iconst 0, 1) := by decide +kernel
theorem c285_1626 : cd 285 1626 = some (.ireturn, 1) := by decide +kernel
theorem c285_1627 : cd 285 1627 = some (.aload_n 1, 1) := by decide +kernel
theorem c285_1628 : cd 285 1628 = some (.aload_n 0, 1) := by decide +kernel
theorem c285_1629 : cd 285 1629 = some (.iload 4, 2) := by decide +kernel
theorem c285_1631 : cd 285 1631 = some (.iconst 1, 1) := by decide +kernel
theorem c285_1632 : cd 285 1632 = some (.iadd, 1) := by decide +kernel
theorem c285_1633 : cd 285 1633 = some (.iaload, 1) := by decide +kernel
theorem c285_1634 : cd 285 1634 = some (.invokevirtual 178, 3) := by decide +kernel
theorem m285_178 : cVf 285 178 = some (116, 2, true) := by decide +kernel
theorem mo116 : (0, 6) = (0, mC 116) := by decide +kernel
theorem c285_1637 : cd 285 1637 = some (.aload_n 2, 1) := by decide +kernel
theorem c285_1638 : cd 285 1638 = some (.aload_n 0, 1) := by decide +kernel
theorem c285_1639 : cd 285 1639 = some (.iload 4, 2) := by decide +kernel
theorem c285_1641 : cd 285 1641 = some (.iconst 1, 1) := by decide +kernel
theorem c285_1642 : cd 285 1642 = some (.iadd, 1) := by decide +kernel
theorem c285_1643 : cd 285 1643 = some (.iaload, 1) := by decide +kernel
theorem c285_1644 : cd 285 1644 = some (.invokevirtual 181, 3) := by decide +kernel
theorem m285_181 : cVf 285 181 = some (275, 2, true) := by decide +kernel
theorem mo275 : (0, 7) = (0, mC 275) := by decide +kernel
theorem c285_1647 : cd 285 1647 = some (.if_icmp .eq 670, 3) := by decide +kernel
theorem c285_1650 : cd 285 1650 = some (.iconst 0, 1) := by decide +kernel
theorem c285_1651 : cd 285 1651 = some (.ireturn, 1) := by decide +kernel
theorem c285_1652 : cd 285 1652 = some (.aload_n 1, 1) := by decide +kernel
theorem c285_1653 : cd 285 1653 = some (.aload_n 0, 1) := by decide +kernel
theorem c285_1654 : cd 285 1654 = some (.iload 4, 2) := by decide +kernel
theorem c285_1656 : cd 285 1656 = some (.iconst 1, 1) := by decide +kernel
theorem c285_1657 : cd 285 1657 = some (.iadd, 1) := by decide +kernel
theorem c285_1658 : cd 285 1658 = some (.iaload, 1) := by decide +kernel
theorem c285_1659 : cd 285 1659 = some (.aload_n 0, 1) := by decide +kernel
theorem c285_1660 : cd 285 1660 = some (.iload 4, 2) := by decide +kernel
theorem c285_1662 : cd 285 1662 = some (.iconst 2, 1) := by decide +kernel
theorem c285_1663 : cd 285 1663 = some (.iadd, 1) := by decide +kernel
theorem c285_1664 : cd 285 1664 = some (.iaload, 1) := by decide +kernel
theorem c285_1665 : cd 285 1665 = some (.aload_n 0, 1) := by decide +kernel
theorem c285_1666 : cd 285 1666 = some (.iload 4, 2) := by decide +kernel
theorem c285_1668 : cd 285 1668 = some (.iconst 3, 1) := by decide +kernel
theorem c285_1669 : cd 285 1669 = some (.iadd, 1) := by decide +kernel
theorem c285_1670 : cd 285 1670 = some (.iaload, 1) := by decide +kernel
theorem c285_1671 : cd 285 1671 = some (.aload_n 0, 1) := by decide +kernel
theorem c285_1672 : cd 285 1672 = some (.iload 4, 2) := by decide +kernel
theorem c285_1674 : cd 285 1674 = some (.iconst 4, 1) := by decide +kernel
theorem c285_1675 : cd 285 1675 = some (.iadd, 1) := by decide +kernel
theorem c285_1676 : cd 285 1676 = some (.iaload, 1) := by decide +kernel
theorem c285_1677 : cd 285 1677 = some (.aload_n 0, 1) := by decide +kernel
theorem c285_1678 : cd 285 1678 = some (.iload 4, 2) := by decide +kernel
theorem c285_1680 : cd 285 1680 = some (.iconst 5, 1) := by decide +kernel
theorem c285_1681 : cd 285 1681 = some (.iadd, 1) := by decide +kernel
theorem c285_1682 : cd 285 1682 = some (.iaload, 1) := by decide +kernel
theorem c285_1683 : cd 285 1683 = some (.invokevirtual 182, 3) := by decide +kernel
theorem m285_182 : cVf 285 182 = some (121, 6, true) := by decide +kernel
theorem mo121 : (0, 6) = (0, mC 121) := by decide +kernel
theorem c285_1686 : cd 285 1686 = some (.aload_n 2, 1) := by decide +kernel
theorem c285_1687 : cd 285 1687 = some (.aload_n 0, 1) := by decide +kernel
theorem c285_1688 : cd 285 1688 = some (.iload 4, 2) := by decide +kernel
theorem c285_1690 : cd 285 1690 = some (.iconst 1, 1) := by decide +kernel
theorem c285_1691 : cd 285 1691 = some (.iadd, 1) := by decide +kernel
theorem c285_1692 : cd 285 1692 = some (.iaload, 1) := by decide +kernel
theorem c285_1693 : cd 285 1693 = some (.aload_n 0, 1) := by decide +kernel
theorem c285_1694 : cd 285 1694 = some (.iload 4, 2) := by decide +kernel
theorem c285_1696 : cd 285 1696 = some (.iconst 2, 1) := by decide +kernel
theorem c285_1697 : cd 285 1697 = some (.iadd, 1) := by decide +kernel
theorem c285_1698 : cd 285 1698 = some (.iaload, 1) := by decide +kernel
theorem c285_1699 : cd 285 1699 = some (.aload_n 0, 1) := by decide +kernel
theorem c285_1700 : cd 285 1700 = some (.iload 4, 2) := by decide +kernel
theorem c285_1702 : cd 285 1702 = some (.iconst 3, 1) := by decide +kernel
theorem c285_1703 : cd 285 1703 = some (.iadd, 1) := by decide +kernel
theorem c285_1704 : cd 285 1704 = some (.iaload, 1) := by decide +kernel
theorem c285_1705 : cd 285 1705 = some (.aload_n 0, 1) := by decide +kernel
theorem c285_1706 : cd 285 1706 = some (.iload 4, 2) := by decide +kernel
theorem c285_1708 : cd 285 1708 = some (.iconst 4, 1) := by decide +kernel
theorem c285_1709 : cd 285 1709 = some (.iadd, 1) := by decide +kernel
theorem c285_1710 : cd 285 1710 = some (.iaload, 1) := by decide +kernel
theorem c285_1711 : cd 285 1711 = some (.aload_n 0, 1) := by decide +kernel
theorem c285_1712 : cd 285 1712 = some (.iload 4, 2) := by decide +kernel
theorem c285_1714 : cd 285 1714 = some (.iconst 5, 1) := by decide +kernel
theorem c285_1715 : cd 285 1715 = some (.iadd, 1) := by decide +kernel
theorem c285_1716 : cd 285 1716 = some (.iaload, 1) := by decide +kernel
theorem c285_1717 : cd 285 1717 = some (.invokevirtual 185, 3) := by decide +kernel
theorem m285_185 : cVf 285 185 = some (208, 6, true) := by decide +kernel
theorem mo208 : (0, 7) = (0, mC 208) := by decide +kernel
theorem c285_1720 : cd 285 1720 = some (.if_icmp .eq 597, 3) := by decide +kernel
theorem c285_1723 : cd 285 1723 = some (.iconst 0, 1) := by decide +kernel
theorem c285_1724 : cd 285 1724 = some (.ireturn, 1) := by decide +kernel
theorem c285_1725 : cd 285 1725 = some (.aload_n 1, 1) := by decide +kernel
theorem c285_1726 : cd 285 1726 = some (.aload_n 0, 1) := by decide +kernel
theorem c285_1727 : cd 285 1727 = some (.iload 4, 2) := by decide +kernel
theorem c285_1729 : cd 285 1729 = some (.iconst 1, 1) := by decide +kernel
theorem c285_1730 : cd 285 1730 = some (.iadd, 1) := by decide +kernel
theorem c285_1731 : cd 285 1731 = some (.iaload, 1) := by decide +kernel
theorem c285_1732 : cd 285 1732 = some (.aload_n 0, 1) := by decide +kernel
theorem c285_1733 : cd 285 1733 = some (.iload 4, 2) := by decide +kernel
theorem c285_1735 : cd 285 1735 = some (.iconst 2, 1) := by decide +kernel
theorem c285_1736 : cd 285 1736 = some (.iadd, 1) := by decide +kernel
theorem c285_1737 : cd 285 1737 = some (.iaload, 1) := by decide +kernel
theorem c285_1738 : cd 285 1738 = some (.aload_n 0, 1) := by decide +kernel
theorem c285_1739 : cd 285 1739 = some (.iload 4, 2) := by decide +kernel
theorem c285_1741 : cd 285 1741 = some (.iconst 3, 1) := by decide +kernel
theorem c285_1742 : cd 285 1742 = some (.iadd, 1) := by decide +kernel
theorem c285_1743 : cd 285 1743 = some (.iaload, 1) := by decide +kernel
theorem c285_1744 : cd 285 1744 = some (.invokevirtual 186, 3) := by decide +kernel
theorem m285_186 : cVf 285 186 = some (122, 4, true) := by decide +kernel
theorem mo122 : (0, 6) = (0, mC 122) := by decide +kernel
theorem c285_1747 : cd 285 1747 = some (.aload_n 2, 1) := by decide +kernel
theorem c285_1748 : cd 285 1748 = some (.aload_n 0, 1) := by decide +kernel
theorem c285_1749 : cd 285 1749 = some (.iload 4, 2) := by decide +kernel
theorem c285_1751 : cd 285 1751 = some (.iconst 1, 1) := by decide +kernel
theorem c285_1752 : cd 285 1752 = some (.iadd, 1) := by decide +kernel
theorem c285_1753 : cd 285 1753 = some (.iaload, 1) := by decide +kernel
theorem c285_1754 : cd 285 1754 = some (.aload_n 0, 1) := by decide +kernel
theorem c285_1755 : cd 285 1755 = some (.iload 4, 2) := by decide +kernel
theorem c285_1757 : cd 285 1757 = some (.iconst 2, 1) := by decide +kernel
theorem c285_1758 : cd 285 1758 = some (.iadd, 1) := by decide +kernel
theorem c285_1759 : cd 285 1759 = some (.iaload, 1) := by decide +kernel
theorem c285_1760 : cd 285 1760 = some (.aload_n 0, 1) := by decide +kernel
theorem c285_1761 : cd 285 1761 = some (.iload 4, 2) := by decide +kernel
theorem c285_1763 : cd 285 1763 = some (.iconst 3, 1) := by decide +kernel
theorem c285_1764 : cd 285 1764 = some (.iadd, 1) := by decide +kernel
theorem c285_1765 : cd 285 1765 = some (.iaload, 1) := by decide +kernel
theorem c285_1766 : cd 285 1766 = some (.invokevirtual 189, 3) := by decide +kernel
theorem m285_189 : cVf 285 189 = some (211, 4, true) := by decide +kernel
theorem mo211 : (0, 7) = (0, mC 211) := by decide +kernel
theorem c285_1769 : cd 285 1769 = some (.if_icmp .eq 548, 3) := by decide +kernel
theorem c285_1772 : cd 285 1772 = some (.iconst 0, 1) := by decide +kernel
theorem c285_1773 : cd 285 1773 = some (.ireturn, 1) := by decide +kernel
theorem c285_1774 : cd 285 1774 = some (.aload_n 1, 1) := by decide +kernel
theorem c285_1775 : cd 285 1775 = some (.aload_n 0, 1) := by decide +kernel
theorem c285_1776 : cd 285 1776 = some (.iload 4, 2) := by decide +kernel
theorem c285_1778 : cd 285 1778 = some (.iconst 1, 1) := by decide +kernel
theorem c285_1779 : cd 285 1779 = some (.iadd, 1) := by decide +kernel
theorem c285_1780 : cd 285 1780 = some (.iaload, 1) := by decide +kernel
theorem c285_1781 : cd 285 1781 = some (.invokevirtual 190, 3) := by decide +kernel
theorem m285_190 : cVf 285 190 = some (124, 2, true) := by decide +kernel
theorem mo124 : (0, 6) = (0, mC 124) := by decide +kernel
theorem c285_1784 : cd 285 1784 = some (.aload_n 2, 1) := by decide +kernel
theorem c285_1785 : cd 285 1785 = some (.aload_n 0, 1) := by decide +kernel
theorem c285_1786 : cd 285 1786 = some (.iload 4, 2) := by decide +kernel
theorem c285_1788 : cd 285 1788 = some (.iconst 1, 1) := by decide +kernel
theorem c285_1789 : cd 285 1789 = some (.iadd, 1) := by decide +kernel
theorem c285_1790 : cd 285 1790 = some (.iaload, 1) := by decide +kernel
theorem c285_1791 : cd 285 1791 = some (.invokevirtual 193, 3) := by decide +kernel
theorem m285_193 : cVf 285 193 = some (212, 2, true) := by decide +kernel
theorem mo212 : (0, 7) = (0, mC 212) := by decide +kernel
theorem c285_1794 : cd 285 1794 = some (.if_icmp .eq 523, 3) := by decide +kernel
theorem c285_1797 : cd 285 1797 = some (.iconst 0, 1) := by decide +kernel
theorem c285_1798 : cd 285 1798 = some (.ireturn, 1) := by decide +kernel
theorem c285_1799 : cd 285 1799 = some (.aload_n 1, 1) := by decide +kernel
theorem c285_1800 : cd 285 1800 = some (.aload_n 0, 1) := by decide +kernel
theorem c285_1801 : cd 285 1801 = some (.iload 4, 2) := by decide +kernel
theorem c285_1803 : cd 285 1803 = some (.iconst 1, 1) := by decide +kernel
theorem c285_1804 : cd 285 1804 = some (.iadd, 1) := by decide +kernel
theorem c285_1805 : cd 285 1805 = some (.iaload, 1) := by decide +kernel
theorem c285_1806 : cd 285 1806 = some (.aload_n 0, 1) := by decide +kernel
theorem c285_1807 : cd 285 1807 = some (.iload 4, 2) := by decide +kernel
theorem c285_1809 : cd 285 1809 = some (.iconst 2, 1) := by decide +kernel
theorem c285_1810 : cd 285 1810 = some (.iadd, 1) := by decide +kernel
theorem c285_1811 : cd 285 1811 = some (.iaload, 1) := by decide +kernel
theorem c285_1812 : cd 285 1812 = some (.aload_n 0, 1) := by decide +kernel
theorem c285_1813 : cd 285 1813 = some (.iload 4, 2) := by decide +kernel
theorem c285_1815 : cd 285 1815 = some (.iconst 3, 1) := by decide +kernel
theorem c285_1816 : cd 285 1816 = some (.iadd, 1) := by decide +kernel
theorem c285_1817 : cd 285 1817 = some (.iaload, 1) := by decide +kernel
theorem c285_1818 : cd 285 1818 = some (.aload_n 0, 1) := by decide +kernel
theorem c285_1819 : cd 285 1819 = some (.iload 4, 2) := by decide +kernel
theorem c285_1821 : cd 285 1821 = some (.iconst 4, 1) := by decide +kernel
theorem c285_1822 : cd 285 1822 = some (.iadd, 1) := by decide +kernel
theorem c285_1823 : cd 285 1823 = some (.iaload, 1) := by decide +kernel
theorem c285_1824 : cd 285 1824 = some (.invokevirtual 194, 3) := by decide +kernel
theorem m285_194 : cVf 285 194 = some (134, 5, true) := by decide +kernel
theorem mo134 : (0, 6) = (0, mC 134) := by decide +kernel
theorem c285_1827 : cd 285 1827 = some (.aload_n 2, 1) := by decide +kernel
theorem c285_1828 : cd 285 1828 = some (.aload_n 0, 1) := by decide +kernel
theorem c285_1829 : cd 285 1829 = some (.iload 4, 2) := by decide +kernel
theorem c285_1831 : cd 285 1831 = some (.iconst 1, 1) := by decide +kernel
theorem c285_1832 : cd 285 1832 = some (.iadd, 1) := by decide +kernel
theorem c285_1833 : cd 285 1833 = some (.iaload, 1) := by decide +kernel
theorem c285_1834 : cd 285 1834 = some (.aload_n 0, 1) := by decide +kernel
theorem c285_1835 : cd 285 1835 = some (.iload 4, 2) := by decide +kernel
theorem c285_1837 : cd 285 1837 = some (.iconst 2, 1) := by decide +kernel
theorem c285_1838 : cd 285 1838 = some (.iadd, 1) := by decide +kernel
theorem c285_1839 : cd 285 1839 = some (.iaload, 1) := by decide +kernel
theorem c285_1840 : cd 285 1840 = some (.aload_n 0, 1) := by decide +kernel
theorem c285_1841 : cd 285 1841 = some (.iload 4, 2) := by decide +kernel
theorem c285_1843 : cd 285 1843 = some (.iconst 3, 1) := by decide +kernel
theorem c285_1844 : cd 285 1844 = some (.iadd, 1) := by decide +kernel
theorem c285_1845 : cd 285 1845 = some (.iaload, 1) := by decide +kernel
theorem c285_1846 : cd 285 1846 = some (.aload_n 0, 1) := by decide +kernel
theorem c285_1847 : cd 285 1847 = some (.iload 4, 2) := by decide +kernel
theorem c285_1849 : cd 285 1849 = some (.iconst 4, 1) := by decide +kernel
theorem c285_1850 : cd 285 1850 = some (.iadd, 1) := by decide +kernel
theorem c285_1851 : cd 285 1851 = some (.iaload, 1) := by decide +kernel
theorem c285_1852 : cd 285 1852 = some (.invokevirtual 197, 3) := by decide +kernel
theorem m285_197 : cVf 285 197 = some (253, 5, true) := by decide +kernel
theorem mo253 : (0, 7) = (0, mC 253) := by decide +kernel
theorem c285_1855 : cd 285 1855 = some (.if_icmp .eq 462, 3) := by decide +kernel
theorem c285_1858 : cd 285 1858 = some (.iconst 0, 1) := by decide +kernel
theorem c285_1859 : cd 285 1859 = some (.ireturn, 1) := by decide +kernel
theorem c285_1860 : cd 285 1860 = some (.aload_n 1, 1) := by decide +kernel
theorem c285_1861 : cd 285 1861 = some (.aload_n 0, 1) := by decide +kernel
theorem c285_1862 : cd 285 1862 = some (.iload 4, 2) := by decide +kernel
theorem c285_1864 : cd 285 1864 = some (.iconst 1, 1) := by decide +kernel
theorem c285_1865 : cd 285 1865 = some (.iadd, 1) := by decide +kernel
theorem c285_1866 : cd 285 1866 = some (.iaload, 1) := by decide +kernel
theorem c285_1867 : cd 285 1867 = some (.aload_n 0, 1) := by decide +kernel
theorem c285_1868 : cd 285 1868 = some (.iload 4, 2) := by decide +kernel
theorem c285_1870 : cd 285 1870 = some (.iconst 2, 1) := by decide +kernel
theorem c285_1871 : cd 285 1871 = some (.iadd, 1) := by decide +kernel
theorem c285_1872 : cd 285 1872 = some (.iaload, 1) := by decide +kernel
theorem c285_1873 : cd 285 1873 = some (.aload_n 0, 1) := by decide +kernel
theorem c285_1874 : cd 285 1874 = some (.iload 4, 2) := by decide +kernel
theorem c285_1876 : cd 285 1876 = some (.iconst 3, 1) := by decide +kernel
theorem c285_1877 : cd 285 1877 = some (.iadd, 1) := by decide +kernel
theorem c285_1878 : cd 285 1878 = some (.iaload, 1) := by decide +kernel
theorem c285_1879 : cd 285 1879 = some (.invokevirtual 198, 3) := by decide +kernel
theorem m285_198 : cVf 285 198 = some (137, 4, true) := by decide +kernel
theorem mo137 : (0, 6) = (0, mC 137) := by decide +kernel
theorem c285_1882 : cd 285 1882 = some (.aload_n 2, 1) := by decide +kernel
theorem c285_1883 : cd 285 1883 = some (.aload_n 0, 1) := by decide +kernel
theorem c285_1884 : cd 285 1884 = some (.iload 4, 2) := by decide +kernel
theorem c285_1886 : cd 285 1886 = some (.iconst 1, 1) := by decide +kernel
theorem c285_1887 : cd 285 1887 = some (.iadd, 1) := by decide +kernel
theorem c285_1888 : cd 285 1888 = some (.iaload, 1) := by decide +kernel
theorem c285_1889 : cd 285 1889 = some (.aload_n 0, 1) := by decide +kernel
theorem c285_1890 : cd 285 1890 = some (.iload 4, 2) := by decide +kernel
theorem c285_1892 : cd 285 1892 = some (.iconst 2, 1) := by decide +kernel
theorem c285_1893 : cd 285 1893 = some (.iadd, 1) := by decide +kernel
theorem c285_1894 : cd 285 1894 = some (.iaload, 1) := by decide +kernel
theorem c285_1895 : cd 285 1895 = some (.aload_n 0, 1) := by decide +kernel
theorem c285_1896 : cd 285 1896 = some (.iload 4, 2) := by decide +kernel
theorem c285_1898 : cd 285 1898 = some (.iconst 3, 1) := by decide +kernel
theorem c285_1899 : cd 285 1899 = some (.iadd, 1) := by decide +kernel
theorem c285_1900 : cd 285 1900 = some (.iaload, 1) := by decide +kernel
theorem c285_1901 : cd 285 1901 = some (.invokevirtual 201, 3) := by decide +kernel
theorem m285_201 : cVf 285 201 = some (254, 4, true) := by decide +kernel
theorem mo254 : (0, 7) = (0, mC 254) := by decide +kernel
theorem c285_1904 : cd 285 1904 = some (.if_icmp .eq 413, 3) := by decide +kernel
theorem c285_1907 : cd 285 1907 = some (.iconst 0, 1) := by decide +kernel
theorem c285_1908 : cd 285 1908 = some (.ireturn, 1) := by decide +kernel
theorem c285_1909 : cd 285 1909 = some (.aload_n 1, 1) := by decide +kernel
theorem c285_1910 : cd 285 1910 = some (.aload_n 0, 1) := by decide +kernel
theorem c285_1911 : cd 285 1911 = some (.iload 4, 2) := by decide +kernel
theorem c285_1913 : cd 285 1913 = some (.iconst 1, 1) := by decide +kernel
theorem c285_1914 : cd 285 1914 = some (.iadd, 1) := by decide +kernel
theorem c285_1915 : cd 285 1915 = some (.iaload, 1) := by decide +kernel
theorem c285_1916 : cd 285 1916 = some (.invokevirtual 202, 3) := by decide +kernel
theorem m285_202 : cVf 285 202 = some (140, 2, true) := by decide +kernel
theorem mo140 : (0, 6) = (0, mC 140) := by decide +kernel
theorem c285_1919 : cd 285 1919 = some (.aload_n 2, 1) := by decide +kernel
theorem c285_1920 : cd 285 1920 = some (.aload_n 0, 1) := by decide +kernel
theorem c285_1921 : cd 285 1921 = some (.iload 4, 2) := by decide +kernel
theorem c285_1923 : cd 285 1923 = some (.iconst 1, 1) := by decide +kernel
theorem c285_1924 : cd 285 1924 = some (.iadd, 1) := by decide +kernel
theorem c285_1925 : cd 285 1925 = some (.iaload, 1) := by decide +kernel
theorem c285_1926 : cd 285 1926 = some (.invokevirtual 205, 3) := by decide +kernel
theorem m285_205 : cVf 285 205 = some (258, 2, true) := by decide +kernel
theorem mo258 : (0, 7) = (0, mC 258) := by decide +kernel
theorem c285_1929 : cd 285 1929 = some (.if_icmp .eq 388, 3) := by decide +kernel
theorem c285_1932 : cd 285 1932 = some (.iconst 0, 1) := by decide +kernel
theorem c285_1933 : cd 285 1933 = some (.ireturn, 1) := by decide +kernel
theorem c285_1934 : cd 285 1934 = some (.aload_n 1, 1) := by decide +kernel
theorem c285_1935 : cd 285 1935 = some (.aload_n 0, 1) := by decide +kernel
theorem c285_1936 : cd 285 1936 = some (.iload 4, 2) := by decide +kernel
theorem c285_1938 : cd 285 1938 = some (.iconst 1, 1) := by decide +kernel
theorem c285_1939 : cd 285 1939 = some (.iadd, 1) := by decide +kernel
theorem c285_1940 : cd 285 1940 = some (.iaload, 1) := by decide +kernel
theorem c285_1941 : cd 285 1941 = some (.invokevirtual 206, 3) := by decide +kernel
theorem m285_206 : cVf 285 206 = some (114, 2, true) := by decide +kernel
theorem mo114 : (0, 6) = (0, mC 114) := by decide +kernel
theorem c285_1944 : cd 285 1944 = some (.aload_n 2, 1) := by decide +kernel
theorem c285_1945 : cd 285 1945 = some (.aload_n 0, 1) := by decide +kernel
theorem c285_1946 : cd 285 1946 = some (.iload 4, 2) := by decide +kernel
theorem c285_1948 : cd 285 1948 = some (.iconst 1, 1) := by decide +kernel
theorem c285_1949 : cd 285 1949 = some (.iadd, 1) := by decide +kernel
theorem c285_1950 : cd 285 1950 = some (.iaload, 1) := by decide +kernel
theorem c285_1951 : cd 285 1951 = some (.invokevirtual 209, 3) := by decide +kernel
theorem m285_209 : cVf 285 209 = some (260, 2, true) := by decide +kernel
theorem mo260 : (0, 7) = (0, mC 260) := by decide +kernel
theorem c285_1954 : cd 285 1954 = some (.if_icmp .eq 363, 3) := by decide +kernel
theorem c285_1957 : cd 285 1957 = some (.iconst 0, 1) := by decide +kernel
theorem c285_1958 : cd 285 1958 = some (.ireturn, 1) := by decide +kernel
theorem c285_1959 : cd 285 1959 = some (.aload_n 1, 1) := by decide +kernel
theorem c285_1960 : cd 285 1960 = some (.invokevirtual 210, 3) := by decide +kernel
theorem m285_210 : cVf 285 210 = some (115, 1, true) := by decide +kernel
theorem mo115 : (0, 6) = (0, mC 115) := by decide +kernel
theorem c285_1963 : cd 285 1963 = some (.aload_n 2, 1) := by decide +kernel
theorem c285_1964 : cd 285 1964 = some (.invokevirtual 213, 3) := by decide +kernel
theorem m285_213 : cVf 285 213 = some (261, 1, true) := by decide +kernel
theorem mo261 : (0, 7) = (0, mC 261) := by decide +kernel
theorem c285_1967 : cd 285 1967 = some (.if_icmp .eq 350, 3) := by decide +kernel
theorem c285_1970 : cd 285 1970 = some (.iconst 0, 1) := by decide +kernel
theorem c285_1971 : cd 285 1971 = some (.ireturn, 1) := by decide +kernel
theorem c285_1972 : cd 285 1972 = some (.aload_n 1, 1) := by decide +kernel
theorem c285_1973 : cd 285 1973 = some (.aload_n 0, 1) := by decide +kernel
theorem c285_1974 : cd 285 1974 = some (.iload 4, 2) := by decide +kernel
theorem c285_1976 : cd 285 1976 = some (.iconst 1, 1) := by decide +kernel
theorem c285_1977 : cd 285 1977 = some (.iadd, 1) := by decide +kernel
theorem c285_1978 : cd 285 1978 = some (.iaload, 1) := by decide +kernel
theorem c285_1979 : cd 285 1979 = some (.invokevirtual 214, 3) := by decide +kernel
theorem m285_214 : cVf 285 214 = some (129, 2, true) := by decide +kernel
theorem mo129 : (0, 6) = (0, mC 129) := by decide +kernel
theorem c285_1982 : cd 285 1982 = some (.aload_n 2, 1) := by decide +kernel
theorem c285_1983 : cd 285 1983 = some (.aload_n 0, 1) := by decide +kernel
theorem c285_1984 : cd 285 1984 = some (.iload 4, 2) := by decide +kernel
theorem c285_1986 : cd 285 1986 = some (.iconst 1, 1) := by decide +kernel
theorem c285_1987 : cd 285 1987 = some (.iadd, 1) := by decide +kernel
theorem c285_1988 : cd 285 1988 = some (.iaload, 1) := by decide +kernel
theorem c285_1989 : cd 285 1989 = some (.invokevirtual 217, 3) := by decide +kernel
theorem m285_217 : cVf 285 217 = some (266, 2, true) := by decide +kernel
theorem mo266 : (0, 7) = (0, mC 266) := by decide +kernel
theorem c285_1992 : cd 285 1992 = some (.if_icmp .eq 325, 3) := by decide +kernel
theorem c285_1995 : cd 285 1995 = some (.iconst 0, 1) := by decide +kernel
theorem c285_1996 : cd 285 1996 = some (.ireturn, 1) := by decide +kernel
theorem c285_1997 : cd 285 1997 = some (.aload_n 1, 1) := by decide +kernel
theorem c285_1998 : cd 285 1998 = some (.aload_n 0, 1) := by decide +kernel
theorem c285_1999 : cd 285 1999 = some (.iload 4, 2) := by decide +kernel
theorem c285_2001 : cd 285 2001 = some (.iconst 1, 1) := by decide +kernel
theorem c285_2002 : cd 285 2002 = some (.iadd, 1) := by decide +kernel
theorem c285_2003 : cd 285 2003 = some (.iaload, 1) := by decide +kernel
theorem c285_2004 : cd 285 2004 = some (.aload_n 0, 1) := by decide +kernel
theorem c285_2005 : cd 285 2005 = some (.iload 4, 2) := by decide +kernel
theorem c285_2007 : cd 285 2007 = some (.iconst 2, 1) := by decide +kernel
theorem c285_2008 : cd 285 2008 = some (.iadd, 1) := by decide +kernel
theorem c285_2009 : cd 285 2009 = some (.iaload, 1) := by decide +kernel
theorem c285_2010 : cd 285 2010 = some (.aload_n 0, 1) := by decide +kernel
theorem c285_2011 : cd 285 2011 = some (.iload 4, 2) := by decide +kernel
theorem c285_2013 : cd 285 2013 = some (.iconst 3, 1) := by decide +kernel
theorem c285_2014 : cd 285 2014 = some (.iadd, 1) := by decide +kernel
theorem c285_2015 : cd 285 2015 = some (.iaload, 1) := by decide +kernel
theorem c285_2016 : cd 285 2016 = some (.invokevirtual 218, 3) := by decide +kernel
theorem m285_218 : cVf 285 218 = some (135, 4, true) := by decide +kernel
theorem mo135 : (0, 6) = (0, mC 135) := by decide +kernel
theorem c285_2019 : cd 285 2019 = some (.aload_n 2, 1) := by decide +kernel
theorem c285_2020 : cd 285 2020 = some (.aload_n 0, 1) := by decide +kernel
theorem c285_2021 : cd 285 2021 = some (.iload 4, 2) := by decide +kernel
theorem c285_2023 : cd 285 2023 = some (.iconst 1, 1) := by decide +kernel
theorem c285_2024 : cd 285 2024 = some (.iadd, 1) := by decide +kernel
theorem c285_2025 : cd 285 2025 = some (.iaload, 1) := by decide +kernel
theorem c285_2026 : cd 285 2026 = some (.aload_n 0, 1) := by decide +kernel
theorem c285_2027 : cd 285 2027 = some (.iload 4, 2) := by decide +kernel
theorem c285_2029 : cd 285 2029 = some (.iconst 2, 1) := by decide +kernel
theorem c285_2030 : cd 285 2030 = some (.iadd, 1) := by decide +kernel
theorem c285_2031 : cd 285 2031 = some (.iaload, 1) := by decide +kernel
theorem c285_2032 : cd 285 2032 = some (.aload_n 0, 1) := by decide +kernel
theorem c285_2033 : cd 285 2033 = some (.iload 4, 2) := by decide +kernel
theorem c285_2035 : cd 285 2035 = some (.iconst 3, 1) := by decide +kernel
theorem c285_2036 : cd 285 2036 = some (.iadd, 1) := by decide +kernel
theorem c285_2037 : cd 285 2037 = some (.iaload, 1) := by decide +kernel
theorem c285_2038 : cd 285 2038 = some (.invokevirtual 221, 3) := by decide +kernel
theorem m285_221 : cVf 285 221 = some (255, 4, true) := by decide +kernel
theorem mo255 : (0, 7) = (0, mC 255) := by decide +kernel
theorem c285_2041 : cd 285 2041 = some (.if_icmp .eq 276, 3) := by decide +kernel
theorem c285_2044 : cd 285 2044 = some (.iconst 0, 1) := by decide +kernel
theorem c285_2045 : cd 285 2045 = some (.ireturn, 1) := by decide +kernel
theorem c285_2046 : cd 285 2046 = some (.aload_n 1, 1) := by decide +kernel
theorem c285_2047 : cd 285 2047 = some (.aload_n 0, 1) := by decide +kernel
theorem c285_2048 : cd 285 2048 = some (.iload 4, 2) := by decide +kernel
theorem c285_2050 : cd 285 2050 = some (.iconst 1, 1) := by decide +kernel
theorem c285_2051 : cd 285 2051 = some (.iadd, 1) := by decide +kernel
theorem c285_2052 : cd 285 2052 = some (.iaload, 1) := by decide +kernel
theorem c285_2053 : cd 285 2053 = some (.aload_n 0, 1) := by decide +kernel
theorem c285_2054 : cd 285 2054 = some (.iload 4, 2) := by decide +kernel
theorem c285_2056 : cd 285 2056 = some (.iconst 2, 1) := by decide +kernel
theorem c285_2057 : cd 285 2057 = some (.iadd, 1) := by decide +kernel
theorem c285_2058 : cd 285 2058 = some (.iaload, 1) := by decide +kernel
theorem c285_2059 : cd 285 2059 = some (.aload_n 0, 1) := by decide +kernel
theorem c285_2060 : cd 285 2060 = some (.iload 4, 2) := by decide +kernel
theorem c285_2062 : cd 285 2062 = some (.iconst 3, 1) := by decide +kernel
theorem c285_2063 : cd 285 2063 = some (.iadd, 1) := by decide +kernel
theorem c285_2064 : cd 285 2064 = some (.iaload, 1) := by decide +kernel
theorem c285_2065 : cd 285 2065 = some (.invokevirtual 222, 3) := by decide +kernel
theorem m285_222 : cVf 285 222 = some (136, 4, true) := by decide +kernel
theorem mo136 : (0, 6) = (0, mC 136) := by decide +kernel
theorem c285_2068 : cd 285 2068 = some (.aload_n 2, 1) := by decide +kernel
theorem c285_2069 : cd 285 2069 = some (.aload_n 0, 1) := by decide +kernel
theorem c285_2070 : cd 285 2070 = some (.iload 4, 2) := by decide +kernel
theorem c285_2072 : cd 285 2072 = some (.iconst 1, 1) := by decide +kernel
theorem c285_2073 : cd 285 2073 = some (.iadd, 1) := by decide +kernel
theorem c285_2074 : cd 285 2074 = some (.iaload, 1) := by decide +kernel
theorem c285_2075 : cd 285 2075 = some (.aload_n 0, 1) := by decide +kernel
theorem c285_2076 : cd 285 2076 = some (.iload 4, 2) := by decide +kernel
theorem c285_2078 : cd 285 2078 = some (.iconst 2, 1) := by decide +kernel
theorem c285_2079 : cd 285 2079 = some (.iadd, 1) := by decide +kernel
theorem c285_2080 : cd 285 2080 = some (.iaload, 1) := by decide +kernel
theorem c285_2081 : cd 285 2081 = some (.aload_n 0, 1) := by decide +kernel
theorem c285_2082 : cd 285 2082 = some (.iload 4, 2) := by decide +kernel
theorem c285_2084 : cd 285 2084 = some (.iconst 3, 1) := by decide +kernel
theorem c285_2085 : cd 285 2085 = some (.iadd, 1) := by decide +kernel
theorem c285_2086 : cd 285 2086 = some (.iaload, 1) := by decide +kernel
theorem c285_2087 : cd 285 2087 = some (.invokevirtual 225, 3) := by decide +kernel
theorem m285_225 : cVf 285 225 = some (256, 4, true) := by decide +kernel
theorem mo256 : (0, 7) = (0, mC 256) := by decide +kernel
theorem c285_2090 : cd 285 2090 = some (.if_icmp .eq 227, 3) := by decide +kernel
theorem c285_2093 : cd 285 2093 = some (.iconst 0, 1) := by decide +kernel
theorem c285_2094 : cd 285 2094 = some (.ireturn, 1) := by decide +kernel
theorem c285_2095 : cd 285 2095 = some (.aload_n 1, 1) := by decide +kernel
theorem c285_2096 : cd 285 2096 = some (.aload_n 0, 1) := by decide +kernel
theorem c285_2097 : cd 285 2097 = some (.iload 4, 2) := by decide +kernel
theorem c285_2099 : cd 285 2099 = some (.iconst 1, 1) := by decide +kernel
theorem c285_2100 : cd 285 2100 = some (.iadd, 1) := by decide +kernel
theorem c285_2101 : cd 285 2101 = some (.iaload, 1) := by decide +kernel
theorem c285_2102 : cd 285 2102 = some (.aload_n 0, 1) := by decide +kernel
theorem c285_2103 : cd 285 2103 = some (.iload 4, 2) := by decide +kernel
theorem c285_2105 : cd 285 2105 = some (.iconst 2, 1) := by decide +kernel
theorem c285_2106 : cd 285 2106 = some (.iadd, 1) := by decide +kernel
theorem c285_2107 : cd 285 2107 = some (.iaload, 1) := by decide +kernel
theorem c285_2108 : cd 285 2108 = some (.invokevirtual 226, 3) := by decide +kernel
theorem m285_226 : cVf 285 226 = some (141, 3, true) := by decide +kernel
theorem mo141 : (0, 6) = (0, mC 141) := by decide +kernel
theorem c285_2111 : cd 285 2111 = some (.aload_n 2, 1) := by decide +kernel
theorem c285_2112 : cd 285 2112 = some (.aload_n 0, 1) := by decide +kernel
theorem c285_2113 : cd 285 2113 = some (.iload 4, 2) := by decide +kernel
theorem c285_2115 : cd 285 2115 = some (.iconst 1, 1) := by decide +kernel
theorem c285_2116 : cd 285 2116 = some (.iadd, 1) := by decide +kernel
theorem c285_2117 : cd 285 2117 = some (.iaload, 1) := by decide +kernel
theorem c285_2118 : cd 285 2118 = some (.aload_n 0, 1) := by decide +kernel
theorem c285_2119 : cd 285 2119 = some (.iload 4, 2) := by decide +kernel
theorem c285_2121 : cd 285 2121 = some (.iconst 2, 1) := by decide +kernel
theorem c285_2122 : cd 285 2122 = some (.iadd, 1) := by decide +kernel
theorem c285_2123 : cd 285 2123 = some (.iaload, 1) := by decide +kernel
theorem c285_2124 : cd 285 2124 = some (.invokevirtual 229, 3) := by decide +kernel
theorem m285_229 : cVf 285 229 = some (257, 3, true) := by decide +kernel
theorem mo257 : (0, 7) = (0, mC 257) := by decide +kernel
theorem c285_2127 : cd 285 2127 = some (.if_icmp .eq 190, 3) := by decide +kernel
theorem c285_2130 : cd 285 2130 = some (.iconst 0, 1) := by decide +kernel
theorem c285_2131 : cd 285 2131 = some (.ireturn, 1) := by decide +kernel
theorem c285_2132 : cd 285 2132 = some (.aload_n 1, 1) := by decide +kernel
theorem c285_2133 : cd 285 2133 = some (.aload_n 0, 1) := by decide +kernel
theorem c285_2134 : cd 285 2134 = some (.iload 4, 2) := by decide +kernel
theorem c285_2136 : cd 285 2136 = some (.iconst 1, 1) := by decide +kernel
theorem c285_2137 : cd 285 2137 = some (.iadd, 1) := by decide +kernel
theorem c285_2138 : cd 285 2138 = some (.iaload, 1) := by decide +kernel
theorem c285_2139 : cd 285 2139 = some (.aload_n 0, 1) := by decide +kernel
theorem c285_2140 : cd 285 2140 = some (.iload 4, 2) := by decide +kernel
theorem c285_2142 : cd 285 2142 = some (.iconst 2, 1) := by decide +kernel
theorem c285_2143 : cd 285 2143 = some (.iadd, 1) := by decide +kernel
theorem c285_2144 : cd 285 2144 = some (.iaload, 1) := by decide +kernel
theorem c285_2145 : cd 285 2145 = some (.aload_n 0, 1) := by decide +kernel
theorem c285_2146 : cd 285 2146 = some (.iload 4, 2) := by decide +kernel
theorem c285_2148 : cd 285 2148 = some (.iconst 3, 1) := by decide +kernel
theorem c285_2149 : cd 285 2149 = some (.iadd, 1) := by decide +kernel
theorem c285_2150 : cd 285 2150 = some (.iaload, 1) := by decide +kernel
theorem c285_2151 : cd 285 2151 = some (.invokevirtual 230, 3) := by decide +kernel
theorem m285_230 : cVf 285 230 = some (125, 4, true) := by decide +kernel
theorem mo125 : (0, 6) = (0, mC 125) := by decide +kernel
theorem c285_2154 : cd 285 2154 = some (.aload_n 2, 1) := by decide +kernel
theorem c285_2155 : cd 285 2155 = some (.aload_n 0, 1) := by decide +kernel
theorem c285_2156 : cd 285 2156 = some (.iload 4, 2) := by decide +kernel
theorem c285_2158 : cd 285 2158 = some (.iconst 1, 1) := by decide +kernel
theorem c285_2159 : cd 285 2159 = some (.iadd, 1) := by decide +kernel
theorem c285_2160 : cd 285 2160 = some (.iaload, 1) := by decide +kernel
theorem c285_2161 : cd 285 2161 = some (.aload_n 0, 1) := by decide +kernel
theorem c285_2162 : cd 285 2162 = some (.iload 4, 2) := by decide +kernel
theorem c285_2164 : cd 285 2164 = some (.iconst 2, 1) := by decide +kernel
theorem c285_2165 : cd 285 2165 = some (.iadd, 1) := by decide +kernel
theorem c285_2166 : cd 285 2166 = some (.iaload, 1) := by decide +kernel
theorem c285_2167 : cd 285 2167 = some (.aload_n 0, 1) := by decide +kernel
theorem c285_2168 : cd 285 2168 = some (.iload 4, 2) := by decide +kernel
theorem c285_2170 : cd 285 2170 = some (.iconst 3, 1) := by decide +kernel
theorem c285_2171 : cd 285 2171 = some (.iadd, 1) := by decide +kernel
theorem c285_2172 : cd 285 2172 = some (.iaload, 1) := by decide +kernel
theorem c285_2173 : cd 285 2173 = some (.invokevirtual 233, 3) := by decide +kernel
theorem m285_233 : cVf 285 233 = some (209, 4, true) := by decide +kernel
theorem mo209 : (0, 7) = (0, mC 209) := by decide +kernel
theorem c285_2176 : cd 285 2176 = some (.if_icmp .eq 141, 3) := by decide +kernel
theorem c285_2179 : cd 285 2179 = some (.iconst 0, 1) := by decide +kernel
theorem c285_2180 : cd 285 2180 = some (.ireturn, 1) := by decide +kernel
theorem c285_2181 : cd 285 2181 = some (.aload_n 1, 1) := by decide +kernel
theorem c285_2182 : cd 285 2182 = some (.aload_n 0, 1) := by decide +kernel
theorem c285_2183 : cd 285 2183 = some (.iload 4, 2) := by decide +kernel
theorem c285_2185 : cd 285 2185 = some (.iconst 1, 1) := by decide +kernel
theorem c285_2186 : cd 285 2186 = some (.iadd, 1) := by decide +kernel
theorem c285_2187 : cd 285 2187 = some (.iaload, 1) := by decide +kernel
theorem c285_2188 : cd 285 2188 = some (.aload_n 0, 1) := by decide +kernel
theorem c285_2189 : cd 285 2189 = some (.iload 4, 2) := by decide +kernel
theorem c285_2191 : cd 285 2191 = some (.iconst 2, 1) := by decide +kernel
theorem c285_2192 : cd 285 2192 = some (.iadd, 1) := by decide +kernel
theorem c285_2193 : cd 285 2193 = some (.iaload, 1) := by decide +kernel
theorem c285_2194 : cd 285 2194 = some (.aload_n 0, 1) := by decide +kernel
theorem c285_2195 : cd 285 2195 = some (.iload 4, 2) := by decide +kernel
theorem c285_2197 : cd 285 2197 = some (.iconst 3, 1) := by decide +kernel
theorem c285_2198 : cd 285 2198 = some (.iadd, 1) := by decide +kernel
theorem c285_2199 : cd 285 2199 = some (.iaload, 1) := by decide +kernel
theorem c285_2200 : cd 285 2200 = some (.invokevirtual 234, 3) := by decide +kernel
theorem m285_234 : cVf 285 234 = some (126, 4, true) := by decide +kernel
theorem mo126 : (0, 6) = (0, mC 126) := by decide +kernel
theorem c285_2203 : cd 285 2203 = some (.aload_n 2, 1) := by decide +kernel
theorem c285_2204 : cd 285 2204 = some (.aload_n 0, 1) := by decide +kernel
theorem c285_2205 : cd 285 2205 = some (.iload 4, 2) := by decide +kernel
theorem c285_2207 : cd 285 2207 = some (.iconst 1, 1) := by decide +kernel
theorem c285_2208 : cd 285 2208 = some (.iadd, 1) := by decide +kernel
theorem c285_2209 : cd 285 2209 = some (.iaload, 1) := by decide +kernel
theorem c285_2210 : cd 285 2210 = some (.aload_n 0, 1) := by decide +kernel
theorem c285_2211 : cd 285 2211 = some (.iload 4, 2) := by decide +kernel
theorem c285_2213 : cd 285 2213 = some (.iconst 2, 1) := by decide +kernel
theorem c285_2214 : cd 285 2214 = some (.iadd, 1) := by decide +kernel
theorem c285_2215 : cd 285 2215 = some (.iaload, 1) := by decide +kernel
theorem c285_2216 : cd 285 2216 = some (.aload_n 0, 1) := by decide +kernel
theorem c285_2217 : cd 285 2217 = some (.iload 4, 2) := by decide +kernel
theorem c285_2219 : cd 285 2219 = some (.iconst 3, 1) := by decide +kernel
theorem c285_2220 : cd 285 2220 = some (.iadd, 1) := by decide +kernel
theorem c285_2221 : cd 285 2221 = some (.iaload, 1) := by decide +kernel
theorem c285_2222 : cd 285 2222 = some (.invokevirtual 237, 3) := by decide +kernel
theorem m285_237 : cVf 285 237 = some (210, 4, true) := by decide +kernel
theorem mo210 : (0, 7) = (0, mC 210) := by decide +kernel
theorem c285_2225 : cd 285 2225 = some (.if_icmp .eq 92, 3) := by decide +kernel
theorem c285_2228 : cd 285 2228 = some (.iconst 0, 1) := by decide +kernel
theorem c285_2229 : cd 285 2229 = some (.ireturn, 1) := by decide +kernel
theorem c285_2230 : cd 285 2230 = some (.aload_n 1, 1) := by decide +kernel
theorem c285_2231 : cd 285 2231 = some (.aload_n 0, 1) := by decide +kernel
theorem c285_2232 : cd 285 2232 = some (.iload 4, 2) := by decide +kernel
theorem c285_2234 : cd 285 2234 = some (.iconst 1, 1) := by decide +kernel
theorem c285_2235 : cd 285 2235 = some (.iadd, 1) := by decide +kernel
theorem c285_2236 : cd 285 2236 = some (.iaload, 1) := by decide +kernel
theorem c285_2237 : cd 285 2237 = some (.aload_n 0, 1) := by decide +kernel
theorem c285_2238 : cd 285 2238 = some (.iload 4, 2) := by decide +kernel
theorem c285_2240 : cd 285 2240 = some (.iconst 2, 1) := by decide +kernel
theorem c285_2241 : cd 285 2241 = some (.iadd, 1) := by decide +kernel
theorem c285_2242 : cd 285 2242 = some (.iaload, 1) := by decide +kernel
theorem c285_2243 : cd 285 2243 = some (.invokevirtual 238, 3) := by decide +kernel
theorem m285_238 : cVf 285 238 = some (109, 3, true) := by decide +kernel
theorem mo109 : (0, 6) = (0, mC 109) := by decide +kernel
theorem c285_2246 : cd 285 2246 = some (.aload_n 2, 1) := by decide +kernel
theorem c285_2247 : cd 285 2247 = some (.aload_n 0, 1) := by decide +kernel
theorem c285_2248 : cd 285 2248 = some (.iload 4, 2) := by decide +kernel
theorem c285_2250 : cd 285 2250 = some (.iconst 1, 1) := by decide +kernel
theorem c285_2251 : cd 285 2251 = some (.iadd, 1) := by decide +kernel
theorem c285_2252 : cd 285 2252 = some (.iaload, 1) := by decide +kernel
theorem c285_2253 : cd 285 2253 = some (.aload_n 0, 1) := by decide +kernel
theorem c285_2254 : cd 285 2254 = some (.iload 4, 2) := by decide +kernel
theorem c285_2256 : cd 285 2256 = some (.iconst 2, 1) := by decide +kernel
theorem c285_2257 : cd 285 2257 = some (.iadd, 1) := by decide +kernel
theorem c285_2258 : cd 285 2258 = some (.iaload, 1) := by decide +kernel
theorem c285_2259 : cd 285 2259 = some (.invokevirtual 241, 3) := by decide +kernel
theorem m285_241 : cVf 285 241 = some (263, 3, true) := by decide +kernel
theorem mo263 : (0, 7) = (0, mC 263) := by decide +kernel
theorem c285_2262 : cd 285 2262 = some (.if_icmp .eq 55, 3) := by decide +kernel
theorem c285_2265 : cd 285 2265 = some (.iconst 0, 1) := by decide +kernel
theorem c285_2266 : cd 285 2266 = some (.ireturn, 1) := by decide +kernel
theorem c285_2267 : cd 285 2267 = some (.aload_n 1, 1) := by decide +kernel
theorem c285_2268 : cd 285 2268 = some (.aload_n 0, 1) := by decide +kernel
theorem c285_2269 : cd 285 2269 = some (.iload 4, 2) := by decide +kernel
theorem c285_2271 : cd 285 2271 = some (.iconst 1, 1) := by decide +kernel
theorem c285_2272 : cd 285 2272 = some (.iadd, 1) := by decide +kernel
theorem c285_2273 : cd 285 2273 = some (.iaload, 1) := by decide +kernel
theorem c285_2274 : cd 285 2274 = some (.invokevirtual 242, 3) := by decide +kernel
theorem m285_242 : cVf 285 242 = some (108, 2, true) := by decide +kernel
theorem mo108 : (0, 6) = (0, mC 108) := by decide +kernel
theorem c285_2277 : cd 285 2277 = some (.aload_n 2, 1) := by decide +kernel
theorem c285_2278 : cd 285 2278 = some (.aload_n 0, 1) := by decide +kernel
theorem c285_2279 : cd 285 2279 = some (.iload 4, 2) := by decide +kernel
theorem c285_2281 : cd 285 2281 = some (.iconst 1, 1) := by decide +kernel
theorem c285_2282 : cd 285 2282 = some (.iadd, 1) := by decide +kernel
theorem c285_2283 : cd 285 2283 = some (.iaload, 1) := by decide +kernel
theorem c285_2284 : cd 285 2284 = some (.invokevirtual 245, 3) := by decide +kernel
theorem m285_245 : cVf 285 245 = some (265, 2, true) := by decide +kernel
theorem mo265 : (0, 7) = (0, mC 265) := by decide +kernel
theorem c285_2287 : cd 285 2287 = some (.if_icmp .eq 30, 3) := by decide +kernel
theorem c285_2290 : cd 285 2290 = some (.iconst 0, 1) := by decide +kernel
theorem c285_2291 : cd 285 2291 = some (.ireturn, 1) := by decide +kernel
theorem c285_2292 : cd 285 2292 = some (.aload_n 1, 1) := by decide +kernel
theorem c285_2293 : cd 285 2293 = some (.aload_n 0, 1) := by decide +kernel
theorem c285_2294 : cd 285 2294 = some (.iload 4, 2) := by decide +kernel
theorem c285_2296 : cd 285 2296 = some (.iconst 1, 1) := by decide +kernel
theorem c285_2297 : cd 285 2297 = some (.iadd, 1) := by decide +kernel
theorem c285_2298 : cd 285 2298 = some (.iaload, 1) := by decide +kernel
theorem c285_2299 : cd 285 2299 = some (.invokevirtual 246, 3) := by decide +kernel
theorem m285_246 : cVf 285 246 = some (142, 2, true) := by decide +kernel
theorem mo142 : (0, 6) = (0, mC 142) := by decide +kernel
theorem c285_2302 : cd 285 2302 = some (.aload_n 2, 1) := by decide +kernel
theorem c285_2303 : cd 285 2303 = some (.aload_n 0, 1) := by decide +kernel
theorem c285_2304 : cd 285 2304 = some (.iload 4, 2) := by decide +kernel
theorem c285_2306 : cd 285 2306 = some (.iconst 1, 1) := by decide +kernel
theorem c285_2307 : cd 285 2307 = some (.iadd, 1) := by decide +kernel
theorem c285_2308 : cd 285 2308 = some (.iaload, 1) := by decide +kernel
theorem c285_2309 : cd 285 2309 = some (.invokevirtual 249, 3) := by decide +kernel
theorem m285_249 : cVf 285 249 = some (277, 2, true) := by decide +kernel
theorem mo277 : (0, 7) = (0, mC 277) := by decide +kernel
theorem c285_2312 : cd 285 2312 = some (.if_icmp .eq 5, 3) := by decide +kernel
theorem c285_2315 : cd 285 2315 = some (.iconst 0, 1) := by decide +kernel
theorem c285_2316 : cd 285 2316 = some (.ireturn, 1) := by decide +kernel
theorem c285_2317 : cd 285 2317 = some (.iinc 4 6, 3) := by decide +kernel
theorem c285_2320 : cd 285 2320 = some (.goto (-2297), 3) := by decide +kernel
theorem E285_23 {sc : SC} {m : Mem} {k : Kst} {l4 : Int32} {x5 x6 : Value} (hL : OL k 0) (hM : OM k 80) (ho : shp k 105 = (4, 1)) : run (some sc) (285, 23, [.retAddr 1, .ref 0, .ref 80, .ref 105, .int l4, x5, x6], []) (m, k) = if (Int32.ofNat sc.1) - (K 6) < l4 then some ((0, K 1), (m, k)) else ck (inb l4 sc.1) (run (some sc) (285, swT ((sc.2 (tn l4)) &&& (K 63)) 0 [268, 341, 366, 391, 459, 527, 595, 663, 700, 737, 774, 799, 824, 849, 874, 887, 924, 961, 998, 1035, 1072, 1121, 1182, 1231, 1268, 1293, 1330, 1367, 1404, 1441, 1466, 1503, 1540, 1577, 1602, 1627, 1652, 1725, 1774, 1799, 1860, 1909, 1934, 1959, 1972, 1997, 2046, 2095, 2132, 2181, 2230, 2267, 2292] 2317, [.retAddr 1, .ref 0, .ref 80, .ref 105, .int l4, x5, x6], []) (m, k)) := (st_iload c285_23 rfl).trans ((st_aload_s c285_25 rfl).trans ((st_slen c285_26).trans ((st_bipush (v := K 6) c285_27 rfl).trans ((st_isub c285_29).trans ((st_icmp_gt (t := 2323) c285_30 rfl).trans (ite_cc ((st_iconst (v := K 1) c285_2323 rfl).trans (st_zret c285_2324 mr285 rfl)) ((st_aload_s c285_33 rfl).trans ((st_iload c285_34 rfl).trans ((st_sald c285_36).trans (ck_cc ((st_bipush (v := K 63) c285_37 rfl).trans ((st_iand c285_39).trans (st_tsw (td := 2317) (ts := [268, 341, 366, 391, 459, 527, 595, 663, 700, 737, 774, 799, 824, 849, 874, 887, 924, 961, 998, 1035, 1072, 1121, 1182, 1231, 1268, 1293, 1330, 1367, 1404, 1441, 1466, 1503, 1540, 1577, 1602, 1627, 1652, 1725, 1774, 1799, 1860, 1909, 1934, 1959, 1972, 1997, 2046, 2095, 2132, 2181, 2230, 2267, 2292]) c285_40 rfl rfl rfl)))))))))))))
theorem E285_268 {sc : SC} {m : Mem} {k : Kst} {l4 : Int32} {x5 x6 : Value} (hL : OL k 0) (hM : OM k 80) (ho : shp k 105 = (4, 1)) : run (some sc) (285, 268, [.retAddr 1, .ref 0, .ref 80, .ref 105, .int l4, x5, x6], []) (m, k) = ck (inb (l4 + (K 1)) sc.1) (ck (inb (l4 + (K 2)) sc.1) (ck (inb (l4 + (K 3)) sc.1) (ck (inb (l4 + (K 4)) sc.1) (ck (inb (l4 + (K 5)) sc.1) (cI (run none (ent 90 [.ref 0, .int (sc.2 (tn (l4 + (K 1)))), .int (sc.2 (tn (l4 + (K 2)))), .int (sc.2 (tn (l4 + (K 3)))), .int (sc.2 (tn (l4 + (K 4)))), .int (sc.2 (tn (l4 + (K 5))))]) (m, k)) (fun v h2 => run (some sc) (285, 302, [.retAddr 1, .ref 0, .ref 80, .ref 105, .int l4, x5, x6], [.int v]) h2)))))) := (st_aload_n c285_268 rfl).trans ((st_aload_s c285_269 rfl).trans ((st_iload c285_270 rfl).trans ((st_iconst (v := K 1) c285_272 rfl).trans ((st_iadd c285_273).trans ((st_sald c285_274).trans (ck_cc ((st_aload_s c285_275 rfl).trans ((st_iload c285_276 rfl).trans ((st_iconst (v := K 2) c285_278 rfl).trans ((st_iadd c285_279).trans ((st_sald c285_280).trans (ck_cc ((st_aload_s c285_281 rfl).trans ((st_iload c285_282 rfl).trans ((st_iconst (v := K 3) c285_284 rfl).trans ((st_iadd c285_285).trans ((st_sald c285_286).trans (ck_cc ((st_aload_s c285_287 rfl).trans ((st_iload c285_288 rfl).trans ((st_iconst (v := K 4) c285_290 rfl).trans ((st_iadd c285_291).trans ((st_sald c285_292).trans (ck_cc ((st_aload_s c285_293 rfl).trans ((st_iload c285_294 rfl).trans ((st_iconst (v := K 5) c285_296 rfl).trans ((st_iadd c285_297).trans ((st_sald c285_298).trans (ck_cc (st_vi c285_299 m285_30 rfl ((OLc hL).trans mo90) rfl rfl)))))))))))))))))))))))))))))))
theorem E285_302 {sc : SC} {m : Mem} {k : Kst} {l4 s0 : Int32} {x5 x6 : Value} (hL : OL k 0) (hM : OM k 80) (ho : shp k 105 = (4, 1)) : run (some sc) (285, 302, [.retAddr 1, .ref 0, .ref 80, .ref 105, .int l4, x5, x6], [.int s0]) (m, k) = ck (inb (l4 + (K 1)) sc.1) (ck (inb (l4 + (K 2)) sc.1) (ck (inb (l4 + (K 3)) sc.1) (ck (inb (l4 + (K 4)) sc.1) (ck (inb (l4 + (K 5)) sc.1) (cI (run none (ent 166 [.ref 80, .int (sc.2 (tn (l4 + (K 1)))), .int (sc.2 (tn (l4 + (K 2)))), .int (sc.2 (tn (l4 + (K 3)))), .int (sc.2 (tn (l4 + (K 4)))), .int (sc.2 (tn (l4 + (K 5))))]) (m, k)) (fun v h2 => run (some sc) (285, 336, [.retAddr 1, .ref 0, .ref 80, .ref 105, .int l4, x5, x6], [.int v, .int s0]) h2)))))) := (st_aload_n c285_302 rfl).trans ((st_aload_s c285_303 rfl).trans ((st_iload c285_304 rfl).trans ((st_iconst (v := K 1) c285_306 rfl).trans ((st_iadd c285_307).trans ((st_sald c285_308).trans (ck_cc ((st_aload_s c285_309 rfl).trans ((st_iload c285_310 rfl).trans ((st_iconst (v := K 2) c285_312 rfl).trans ((st_iadd c285_313).trans ((st_sald c285_314).trans (ck_cc ((st_aload_s c285_315 rfl).trans ((st_iload c285_316 rfl).trans ((st_iconst (v := K 3) c285_318 rfl).trans ((st_iadd c285_319).trans ((st_sald c285_320).trans (ck_cc ((st_aload_s c285_321 rfl).trans ((st_iload c285_322 rfl).trans ((st_iconst (v := K 4) c285_324 rfl).trans ((st_iadd c285_325).trans ((st_sald c285_326).trans (ck_cc ((st_aload_s c285_327 rfl).trans ((st_iload c285_328 rfl).trans ((st_iconst (v := K 5) c285_330 rfl).trans ((st_iadd c285_331).trans ((st_sald c285_332).trans (ck_cc (st_vi c285_333 m285_34 rfl ((OMc hM).trans mo166) rfl rfl)))))))))))))))))))))))))))))))
theorem E285_336 {sc : SC} {m : Mem} {k : Kst} {l4 s1 s0 : Int32} {x5 x6 : Value} (hL : OL k 0) (hM : OM k 80) (ho : shp k 105 = (4, 1)) : run (some sc) (285, 336, [.retAddr 1, .ref 0, .ref 80, .ref 105, .int l4, x5, x6], [.int s1, .int s0]) (m, k) = if s0 = s1 then run (some sc) (285, 2317, [.retAddr 1, .ref 0, .ref 80, .ref 105, .int l4, x5, x6], []) (m, k) else some ((0, K 0), (m, k)) := (st_icmp_eq (t := 2317) c285_336 rfl).trans (ite_cc (rfl) ((st_iconst (v := K 0) c285_339 rfl).trans (st_zret c285_340 mr285 rfl)))
theorem E285_341 {sc : SC} {m : Mem} {k : Kst} {l4 : Int32} {x5 x6 : Value} (hL : OL k 0) (hM : OM k 80) (ho : shp k 105 = (4, 1)) : run (some sc) (285, 341, [.retAddr 1, .ref 0, .ref 80, .ref 105, .int l4, x5, x6], []) (m, k) = ck (inb (l4 + (K 1)) sc.1) (cI (run none (ent 91 [.ref 0, .int (sc.2 (tn (l4 + (K 1))))]) (m, k)) (fun v h2 => run (some sc) (285, 351, [.retAddr 1, .ref 0, .ref 80, .ref 105, .int l4, x5, x6], [.int v]) h2)) := (st_aload_n c285_341 rfl).trans ((st_aload_s c285_342 rfl).trans ((st_iload c285_343 rfl).trans ((st_iconst (v := K 1) c285_345 rfl).trans ((st_iadd c285_346).trans ((st_sald c285_347).trans (ck_cc (st_vi c285_348 m285_35 rfl ((OLc hL).trans mo91) rfl rfl)))))))
theorem E285_351 {sc : SC} {m : Mem} {k : Kst} {l4 s0 : Int32} {x5 x6 : Value} (hL : OL k 0) (hM : OM k 80) (ho : shp k 105 = (4, 1)) : run (some sc) (285, 351, [.retAddr 1, .ref 0, .ref 80, .ref 105, .int l4, x5, x6], [.int s0]) (m, k) = ck (inb (l4 + (K 1)) sc.1) (cI (run none (ent 186 [.ref 80, .int (sc.2 (tn (l4 + (K 1))))]) (m, k)) (fun v h2 => run (some sc) (285, 361, [.retAddr 1, .ref 0, .ref 80, .ref 105, .int l4, x5, x6], [.int v, .int s0]) h2)) := (st_aload_n c285_351 rfl).trans ((st_aload_s c285_352 rfl).trans ((st_iload c285_353 rfl).trans ((st_iconst (v := K 1) c285_355 rfl).trans ((st_iadd c285_356).trans ((st_sald c285_357).trans (ck_cc (st_vi c285_358 m285_39 rfl ((OMc hM).trans mo186) rfl rfl)))))))
theorem E285_361 {sc : SC} {m : Mem} {k : Kst} {l4 s1 s0 : Int32} {x5 x6 : Value} (hL : OL k 0) (hM : OM k 80) (ho : shp k 105 = (4, 1)) : run (some sc) (285, 361, [.retAddr 1, .ref 0, .ref 80, .ref 105, .int l4, x5, x6], [.int s1, .int s0]) (m, k) = if s0 = s1 then run (some sc) (285, 2317, [.retAddr 1, .ref 0, .ref 80, .ref 105, .int l4, x5, x6], []) (m, k) else some ((0, K 0), (m, k)) := (st_icmp_eq (t := 2317) c285_361 rfl).trans (ite_cc (rfl) ((st_iconst (v := K 0) c285_364 rfl).trans (st_zret c285_365 mr285 rfl)))
theorem E285_366 {sc : SC} {m : Mem} {k : Kst} {l4 : Int32} {x5 x6 : Value} (hL : OL k 0) (hM : OM k 80) (ho : shp k 105 = (4, 1)) : run (some sc) (285, 366, [.retAddr 1, .ref 0, .ref 80, .ref 105, .int l4, x5, x6], []) (m, k) = ck (inb (l4 + (K 1)) sc.1) (cI (run none (ent 92 [.ref 0, .int (sc.2 (tn (l4 + (K 1))))]) (m, k)) (fun v h2 => run (some sc) (285, 376, [.retAddr 1, .ref 0, .ref 80, .ref 105, .int l4, x5, x6], [.int v]) h2)) := (st_aload_n c285_366 rfl).trans ((st_aload_s c285_367 rfl).trans ((st_iload c285_368 rfl).trans ((st_iconst (v := K 1) c285_370 rfl).trans ((st_iadd c285_371).trans ((st_sald c285_372).trans (ck_cc (st_vi c285_373 m285_40 rfl ((OLc hL).trans mo92) rfl rfl)))))))
theorem E285_376 {sc : SC} {m : Mem} {k : Kst} {l4 s0 : Int32} {x5 x6 : Value} (hL : OL k 0) (hM : OM k 80) (ho : shp k 105 = (4, 1)) : run (some sc) (285, 376, [.retAddr 1, .ref 0, .ref 80, .ref 105, .int l4, x5, x6], [.int s0]) (m, k) = ck (inb (l4 + (K 1)) sc.1) (cI (run none (ent 190 [.ref 80, .int (sc.2 (tn (l4 + (K 1))))]) (m, k)) (fun v h2 => run (some sc) (285, 386, [.retAddr 1, .ref 0, .ref 80, .ref 105, .int l4, x5, x6], [.int v, .int s0]) h2)) := (st_aload_n c285_376 rfl).trans ((st_aload_s c285_377 rfl).trans ((st_iload c285_378 rfl).trans ((st_iconst (v := K 1) c285_380 rfl).trans ((st_iadd c285_381).trans ((st_sald c285_382).trans (ck_cc (st_vi c285_383 m285_43 rfl ((OMc hM).trans mo190) rfl rfl)))))))
theorem E285_386 {sc : SC} {m : Mem} {k : Kst} {l4 s1 s0 : Int32} {x5 x6 : Value} (hL : OL k 0) (hM : OM k 80) (ho : shp k 105 = (4, 1)) : run (some sc) (285, 386, [.retAddr 1, .ref 0, .ref 80, .ref 105, .int l4, x5, x6], [.int s1, .int s0]) (m, k) = if s0 = s1 then run (some sc) (285, 2317, [.retAddr 1, .ref 0, .ref 80, .ref 105, .int l4, x5, x6], []) (m, k) else some ((0, K 0), (m, k)) := (st_icmp_eq (t := 2317) c285_386 rfl).trans (ite_cc (rfl) ((st_iconst (v := K 0) c285_389 rfl).trans (st_zret c285_390 mr285 rfl)))
theorem E285_391 {sc : SC} {m : Mem} {k : Kst} {l4 : Int32} {x5 x6 : Value} (hL : OL k 0) (hM : OM k 80) (ho : shp k 105 = (4, 1)) : run (some sc) (285, 391, [.retAddr 1, .ref 0, .ref 80, .ref 105, .int l4, x5, x6], []) (m, k) = ck (inb (l4 + (K 1)) sc.1) (ck (inb (l4 + (K 2)) sc.1) (cH (run none (ent 93 [.ref 0, .int (sc.2 (tn (l4 + (K 1)))), .int (sc.2 (tn (l4 + (K 2))))]) (m, k)) 105 (fun v h2 => run (some sc) (285, 408, [.retAddr 1, .ref 0, .ref 80, .ref 105, .int l4, x5, x6], [.int v]) h2))) := (st_aload_n c285_391 rfl).trans ((st_aload_s c285_392 rfl).trans ((st_iload c285_393 rfl).trans ((st_iconst (v := K 1) c285_395 rfl).trans ((st_iadd c285_396).trans ((st_sald c285_397).trans (ck_cc ((st_aload_s c285_398 rfl).trans ((st_iload c285_399 rfl).trans ((st_iconst (v := K 2) c285_401 rfl).trans ((st_iadd c285_402).trans ((st_sald c285_403).trans (ck_cc ((st_aload_n c285_404 rfl).trans (st_hp c285_405 mc285 rfl rfl (OLc hL)))))))))))))))
theorem E285_408 {sc : SC} {m : Mem} {k : Kst} {l4 s0 : Int32} {x5 x6 : Value} (hL : OL k 0) (hM : OM k 80) (ho : shp k 105 = (4, 1)) : run (some sc) (285, 408, [.retAddr 1, .ref 0, .ref 80, .ref 105, .int l4, x5, x6], [.int s0]) (m, k) = ck (inb (l4 + (K 1)) sc.1) (ck (inb (l4 + (K 2)) sc.1) (cI (run none (ent 224 [.ref 80, .int (sc.2 (tn (l4 + (K 1)))), .int (sc.2 (tn (l4 + (K 2))))]) (m, k)) (fun v h2 => run (some sc) (285, 426, [.retAddr 1, .ref 0, .ref 80, .ref 105, .int l4, .int s0, x6], [.int v]) h2))) := (st_istore c285_408 rfl rfl).trans ((st_aload_n c285_410 rfl).trans ((st_aload_s c285_411 rfl).trans ((st_iload c285_412 rfl).trans ((st_iconst (v := K 1) c285_414 rfl).trans ((st_iadd c285_415).trans ((st_sald c285_416).trans (ck_cc ((st_aload_s c285_417 rfl).trans ((st_iload c285_418 rfl).trans ((st_iconst (v := K 2) c285_420 rfl).trans ((st_iadd c285_421).trans ((st_sald c285_422).trans (ck_cc (st_vi c285_423 m285_49 rfl ((OMc hM).trans mo224) rfl rfl))))))))))))))
theorem E285_426 {sc : SC} {m : Mem} {k : Kst} {l4 l5 s0 : Int32} {x6 : Value} (hL : OL k 0) (hM : OM k 80) (ho : shp k 105 = (4, 1)) : run (some sc) (285, 426, [.retAddr 1, .ref 0, .ref 80, .ref 105, .int l4, .int l5, x6], [.int s0]) (m, k) = cI (run none (ent 157 [.ref 80]) (m, k)) (fun v h2 => run (some sc) (285, 432, [.retAddr 1, .ref 0, .ref 80, .ref 105, .int l4, .int l5, .int s0], [.int v]) h2) := (st_istore c285_426 rfl rfl).trans ((st_aload_n c285_428 rfl).trans (st_vi c285_429 m285_50 rfl ((OMc hM).trans mo157) rfl rfl))
theorem E285_432 {sc : SC} {m : Mem} {k : Kst} {l4 l5 l6 s0 : Int32} (hL : OL k 0) (hM : OM k 80) (ho : shp k 105 = (4, 1)) : run (some sc) (285, 432, [.retAddr 1, .ref 0, .ref 80, .ref 105, .int l4, .int l5, .int l6], [.int s0]) (m, k) = if s0 = l5 then if l5 = K 0 then ck (inb (K 0) 1) (if lg_cmp (kml k 105 (tn (K 0))) ((l6).toInt64) = K 0 then run (some sc) (285, 456, [.retAddr 1, .ref 0, .ref 80, .ref 105, .int l4, .int l5, .int l6], []) (m, k) else some ((0, K 0), (m, k))) else run (some sc) (285, 456, [.retAddr 1, .ref 0, .ref 80, .ref 105, .int l4, .int l5, .int l6], []) (m, k) else some ((0, K 0), (m, k)) := (st_iload c285_432 rfl).trans ((st_icmp_eq (t := 439) c285_434 rfl).trans (ite_cc ((st_iload c285_439 rfl).trans ((st_if_ne (t := 456) c285_441 rfl).trans (ite_cc ((st_aload_n c285_444 rfl).trans ((st_iconst (v := K 0) c285_445 rfl).trans ((st_lald c285_446 ho).trans (ck_cc ((st_iload c285_447 rfl).trans ((st_i2l c285_449).trans ((st_lcmp c285_450).trans ((st_if_eq (t := 456) c285_451 rfl).trans (ite_cc (rfl) ((st_iconst (v := K 0) c285_454 rfl).trans (st_zret c285_455 mr285 rfl))))))))))) (rfl)))) ((st_iconst (v := K 0) c285_437 rfl).trans (st_zret c285_438 mr285 rfl))))
theorem E285_456 {sc : SC} {m : Mem} {k : Kst} {l4 l5 l6 : Int32} (hL : OL k 0) (hM : OM k 80) (ho : shp k 105 = (4, 1)) : run (some sc) (285, 456, [.retAddr 1, .ref 0, .ref 80, .ref 105, .int l4, .int l5, .int l6], []) (m, k) = run (some sc) (285, 2317, [.retAddr 1, .ref 0, .ref 80, .ref 105, .int l4, .int l5, .int l6], []) (m, k) := st_goto (t := 2317) c285_456 rfl
theorem E285_459 {sc : SC} {m : Mem} {k : Kst} {l4 : Int32} {x5 x6 : Value} (hL : OL k 0) (hM : OM k 80) (ho : shp k 105 = (4, 1)) : run (some sc) (285, 459, [.retAddr 1, .ref 0, .ref 80, .ref 105, .int l4, x5, x6], []) (m, k) = ck (inb (l4 + (K 1)) sc.1) (ck (inb (l4 + (K 2)) sc.1) (cH (run none (ent 94 [.ref 0, .int (sc.2 (tn (l4 + (K 1)))), .int (sc.2 (tn (l4 + (K 2))))]) (m, k)) 105 (fun v h2 => run (some sc) (285, 476, [.retAddr 1, .ref 0, .ref 80, .ref 105, .int l4, x5, x6], [.int v]) h2))) := (st_aload_n c285_459 rfl).trans ((st_aload_s c285_460 rfl).trans ((st_iload c285_461 rfl).trans ((st_iconst (v := K 1) c285_463 rfl).trans ((st_iadd c285_464).trans ((st_sald c285_465).trans (ck_cc ((st_aload_s c285_466 rfl).trans ((st_iload c285_467 rfl).trans ((st_iconst (v := K 2) c285_469 rfl).trans ((st_iadd c285_470).trans ((st_sald c285_471).trans (ck_cc ((st_aload_n c285_472 rfl).trans (st_hp c285_473 mc285 rfl rfl (OLc hL)))))))))))))))
theorem E285_476 {sc : SC} {m : Mem} {k : Kst} {l4 s0 : Int32} {x5 x6 : Value} (hL : OL k 0) (hM : OM k 80) (ho : shp k 105 = (4, 1)) : run (some sc) (285, 476, [.retAddr 1, .ref 0, .ref 80, .ref 105, .int l4, x5, x6], [.int s0]) (m, k) = ck (inb (l4 + (K 1)) sc.1) (ck (inb (l4 + (K 2)) sc.1) (cI (run none (ent 225 [.ref 80, .int (sc.2 (tn (l4 + (K 1)))), .int (sc.2 (tn (l4 + (K 2))))]) (m, k)) (fun v h2 => run (some sc) (285, 494, [.retAddr 1, .ref 0, .ref 80, .ref 105, .int l4, .int s0, x6], [.int v]) h2))) := (st_istore c285_476 rfl rfl).trans ((st_aload_n c285_478 rfl).trans ((st_aload_s c285_479 rfl).trans ((st_iload c285_480 rfl).trans ((st_iconst (v := K 1) c285_482 rfl).trans ((st_iadd c285_483).trans ((st_sald c285_484).trans (ck_cc ((st_aload_s c285_485 rfl).trans ((st_iload c285_486 rfl).trans ((st_iconst (v := K 2) c285_488 rfl).trans ((st_iadd c285_489).trans ((st_sald c285_490).trans (ck_cc (st_vi c285_491 m285_56 rfl ((OMc hM).trans mo225) rfl rfl))))))))))))))
theorem E285_494 {sc : SC} {m : Mem} {k : Kst} {l4 l5 s0 : Int32} {x6 : Value} (hL : OL k 0) (hM : OM k 80) (ho : shp k 105 = (4, 1)) : run (some sc) (285, 494, [.retAddr 1, .ref 0, .ref 80, .ref 105, .int l4, .int l5, x6], [.int s0]) (m, k) = cI (run none (ent 157 [.ref 80]) (m, k)) (fun v h2 => run (some sc) (285, 500, [.retAddr 1, .ref 0, .ref 80, .ref 105, .int l4, .int l5, .int s0], [.int v]) h2) := (st_istore c285_494 rfl rfl).trans ((st_aload_n c285_496 rfl).trans (st_vi c285_497 m285_50 rfl ((OMc hM).trans mo157) rfl rfl))
theorem E285_500 {sc : SC} {m : Mem} {k : Kst} {l4 l5 l6 s0 : Int32} (hL : OL k 0) (hM : OM k 80) (ho : shp k 105 = (4, 1)) : run (some sc) (285, 500, [.retAddr 1, .ref 0, .ref 80, .ref 105, .int l4, .int l5, .int l6], [.int s0]) (m, k) = if s0 = l5 then if l5 = K 0 then ck (inb (K 0) 1) (if lg_cmp (kml k 105 (tn (K 0))) ((l6).toInt64) = K 0 then run (some sc) (285, 524, [.retAddr 1, .ref 0, .ref 80, .ref 105, .int l4, .int l5, .int l6], []) (m, k) else some ((0, K 0), (m, k))) else run (some sc) (285, 524, [.retAddr 1, .ref 0, .ref 80, .ref 105, .int l4, .int l5, .int l6], []) (m, k) else some ((0, K 0), (m, k)) := (st_iload c285_500 rfl).trans ((st_icmp_eq (t := 507) c285_502 rfl).trans (ite_cc ((st_iload c285_507 rfl).trans ((st_if_ne (t := 524) c285_509 rfl).trans (ite_cc ((st_aload_n c285_512 rfl).trans ((st_iconst (v := K 0) c285_513 rfl).trans ((st_lald c285_514 ho).trans (ck_cc ((st_iload c285_515 rfl).trans ((st_i2l c285_517).trans ((st_lcmp c285_518).trans ((st_if_eq (t := 524) c285_519 rfl).trans (ite_cc (rfl) ((st_iconst (v := K 0) c285_522 rfl).trans (st_zret c285_523 mr285 rfl))))))))))) (rfl)))) ((st_iconst (v := K 0) c285_505 rfl).trans (st_zret c285_506 mr285 rfl))))
theorem E285_524 {sc : SC} {m : Mem} {k : Kst} {l4 l5 l6 : Int32} (hL : OL k 0) (hM : OM k 80) (ho : shp k 105 = (4, 1)) : run (some sc) (285, 524, [.retAddr 1, .ref 0, .ref 80, .ref 105, .int l4, .int l5, .int l6], []) (m, k) = run (some sc) (285, 2317, [.retAddr 1, .ref 0, .ref 80, .ref 105, .int l4, .int l5, .int l6], []) (m, k) := st_goto (t := 2317) c285_524 rfl
theorem E285_527 {sc : SC} {m : Mem} {k : Kst} {l4 : Int32} {x5 x6 : Value} (hL : OL k 0) (hM : OM k 80) (ho : shp k 105 = (4, 1)) : run (some sc) (285, 527, [.retAddr 1, .ref 0, .ref 80, .ref 105, .int l4, x5, x6], []) (m, k) = ck (inb (l4 + (K 1)) sc.1) (ck (inb (l4 + (K 2)) sc.1) (cH (run none (ent 95 [.ref 0, .int (sc.2 (tn (l4 + (K 1)))), .int (sc.2 (tn (l4 + (K 2))))]) (m, k)) 105 (fun v h2 => run (some sc) (285, 544, [.retAddr 1, .ref 0, .ref 80, .ref 105, .int l4, x5, x6], [.int v]) h2))) := (st_aload_n c285_527 rfl).trans ((st_aload_s c285_528 rfl).trans ((st_iload c285_529 rfl).trans ((st_iconst (v := K 1) c285_531 rfl).trans ((st_iadd c285_532).trans ((st_sald c285_533).trans (ck_cc ((st_aload_s c285_534 rfl).trans ((st_iload c285_535 rfl).trans ((st_iconst (v := K 2) c285_537 rfl).trans ((st_iadd c285_538).trans ((st_sald c285_539).trans (ck_cc ((st_aload_n c285_540 rfl).trans (st_hp c285_541 mc285 rfl rfl (OLc hL)))))))))))))))
theorem E285_544 {sc : SC} {m : Mem} {k : Kst} {l4 s0 : Int32} {x5 x6 : Value} (hL : OL k 0) (hM : OM k 80) (ho : shp k 105 = (4, 1)) : run (some sc) (285, 544, [.retAddr 1, .ref 0, .ref 80, .ref 105, .int l4, x5, x6], [.int s0]) (m, k) = ck (inb (l4 + (K 1)) sc.1) (ck (inb (l4 + (K 2)) sc.1) (cI (run none (ent 226 [.ref 80, .int (sc.2 (tn (l4 + (K 1)))), .int (sc.2 (tn (l4 + (K 2))))]) (m, k)) (fun v h2 => run (some sc) (285, 562, [.retAddr 1, .ref 0, .ref 80, .ref 105, .int l4, .int s0, x6], [.int v]) h2))) := (st_istore c285_544 rfl rfl).trans ((st_aload_n c285_546 rfl).trans ((st_aload_s c285_547 rfl).trans ((st_iload c285_548 rfl).trans ((st_iconst (v := K 1) c285_550 rfl).trans ((st_iadd c285_551).trans ((st_sald c285_552).trans (ck_cc ((st_aload_s c285_553 rfl).trans ((st_iload c285_554 rfl).trans ((st_iconst (v := K 2) c285_556 rfl).trans ((st_iadd c285_557).trans ((st_sald c285_558).trans (ck_cc (st_vi c285_559 m285_59 rfl ((OMc hM).trans mo226) rfl rfl))))))))))))))
theorem E285_562 {sc : SC} {m : Mem} {k : Kst} {l4 l5 s0 : Int32} {x6 : Value} (hL : OL k 0) (hM : OM k 80) (ho : shp k 105 = (4, 1)) : run (some sc) (285, 562, [.retAddr 1, .ref 0, .ref 80, .ref 105, .int l4, .int l5, x6], [.int s0]) (m, k) = cI (run none (ent 157 [.ref 80]) (m, k)) (fun v h2 => run (some sc) (285, 568, [.retAddr 1, .ref 0, .ref 80, .ref 105, .int l4, .int l5, .int s0], [.int v]) h2) := (st_istore c285_562 rfl rfl).trans ((st_aload_n c285_564 rfl).trans (st_vi c285_565 m285_50 rfl ((OMc hM).trans mo157) rfl rfl))
theorem E285_568 {sc : SC} {m : Mem} {k : Kst} {l4 l5 l6 s0 : Int32} (hL : OL k 0) (hM : OM k 80) (ho : shp k 105 = (4, 1)) : run (some sc) (285, 568, [.retAddr 1, .ref 0, .ref 80, .ref 105, .int l4, .int l5, .int l6], [.int s0]) (m, k) = if s0 = l5 then if l5 = K 0 then ck (inb (K 0) 1) (if lg_cmp (kml k 105 (tn (K 0))) ((l6).toInt64) = K 0 then run (some sc) (285, 592, [.retAddr 1, .ref 0, .ref 80, .ref 105, .int l4, .int l5, .int l6], []) (m, k) else some ((0, K 0), (m, k))) else run (some sc) (285, 592, [.retAddr 1, .ref 0, .ref 80, .ref 105, .int l4, .int l5, .int l6], []) (m, k) else some ((0, K 0), (m, k)) := (st_iload c285_568 rfl).trans ((st_icmp_eq (t := 575) c285_570 rfl).trans (ite_cc ((st_iload c285_575 rfl).trans ((st_if_ne (t := 592) c285_577 rfl).trans (ite_cc ((st_aload_n c285_580 rfl).trans ((st_iconst (v := K 0) c285_581 rfl).trans ((st_lald c285_582 ho).trans (ck_cc ((st_iload c285_583 rfl).trans ((st_i2l c285_585).trans ((st_lcmp c285_586).trans ((st_if_eq (t := 592) c285_587 rfl).trans (ite_cc (rfl) ((st_iconst (v := K 0) c285_590 rfl).trans (st_zret c285_591 mr285 rfl))))))))))) (rfl)))) ((st_iconst (v := K 0) c285_573 rfl).trans (st_zret c285_574 mr285 rfl))))
theorem E285_592 {sc : SC} {m : Mem} {k : Kst} {l4 l5 l6 : Int32} (hL : OL k 0) (hM : OM k 80) (ho : shp k 105 = (4, 1)) : run (some sc) (285, 592, [.retAddr 1, .ref 0, .ref 80, .ref 105, .int l4, .int l5, .int l6], []) (m, k) = run (some sc) (285, 2317, [.retAddr 1, .ref 0, .ref 80, .ref 105, .int l4, .int l5, .int l6], []) (m, k) := st_goto (t := 2317) c285_592 rfl
theorem E285_595 {sc : SC} {m : Mem} {k : Kst} {l4 : Int32} {x5 x6 : Value} (hL : OL k 0) (hM : OM k 80) (ho : shp k 105 = (4, 1)) : run (some sc) (285, 595, [.retAddr 1, .ref 0, .ref 80, .ref 105, .int l4, x5, x6], []) (m, k) = ck (inb (l4 + (K 1)) sc.1) (ck (inb (l4 + (K 2)) sc.1) (cH (run none (ent 96 [.ref 0, .int (sc.2 (tn (l4 + (K 1)))), .int (sc.2 (tn (l4 + (K 2))))]) (m, k)) 105 (fun v h2 => run (some sc) (285, 612, [.retAddr 1, .ref 0, .ref 80, .ref 105, .int l4, x5, x6], [.int v]) h2))) := (st_aload_n c285_595 rfl).trans ((st_aload_s c285_596 rfl).trans ((st_iload c285_597 rfl).trans ((st_iconst (v := K 1) c285_599 rfl).trans ((st_iadd c285_600).trans ((st_sald c285_601).trans (ck_cc ((st_aload_s c285_602 rfl).trans ((st_iload c285_603 rfl).trans ((st_iconst (v := K 2) c285_605 rfl).trans ((st_iadd c285_606).trans ((st_sald c285_607).trans (ck_cc ((st_aload_n c285_608 rfl).trans (st_hp c285_609 mc285 rfl rfl (OLc hL)))))))))))))))
theorem E285_612 {sc : SC} {m : Mem} {k : Kst} {l4 s0 : Int32} {x5 x6 : Value} (hL : OL k 0) (hM : OM k 80) (ho : shp k 105 = (4, 1)) : run (some sc) (285, 612, [.retAddr 1, .ref 0, .ref 80, .ref 105, .int l4, x5, x6], [.int s0]) (m, k) = ck (inb (l4 + (K 1)) sc.1) (ck (inb (l4 + (K 2)) sc.1) (cI (run none (ent 227 [.ref 80, .int (sc.2 (tn (l4 + (K 1)))), .int (sc.2 (tn (l4 + (K 2))))]) (m, k)) (fun v h2 => run (some sc) (285, 630, [.retAddr 1, .ref 0, .ref 80, .ref 105, .int l4, .int s0, x6], [.int v]) h2))) := (st_istore c285_612 rfl rfl).trans ((st_aload_n c285_614 rfl).trans ((st_aload_s c285_615 rfl).trans ((st_iload c285_616 rfl).trans ((st_iconst (v := K 1) c285_618 rfl).trans ((st_iadd c285_619).trans ((st_sald c285_620).trans (ck_cc ((st_aload_s c285_621 rfl).trans ((st_iload c285_622 rfl).trans ((st_iconst (v := K 2) c285_624 rfl).trans ((st_iadd c285_625).trans ((st_sald c285_626).trans (ck_cc (st_vi c285_627 m285_62 rfl ((OMc hM).trans mo227) rfl rfl))))))))))))))
theorem E285_630 {sc : SC} {m : Mem} {k : Kst} {l4 l5 s0 : Int32} {x6 : Value} (hL : OL k 0) (hM : OM k 80) (ho : shp k 105 = (4, 1)) : run (some sc) (285, 630, [.retAddr 1, .ref 0, .ref 80, .ref 105, .int l4, .int l5, x6], [.int s0]) (m, k) = cI (run none (ent 157 [.ref 80]) (m, k)) (fun v h2 => run (some sc) (285, 636, [.retAddr 1, .ref 0, .ref 80, .ref 105, .int l4, .int l5, .int s0], [.int v]) h2) := (st_istore c285_630 rfl rfl).trans ((st_aload_n c285_632 rfl).trans (st_vi c285_633 m285_50 rfl ((OMc hM).trans mo157) rfl rfl))
theorem E285_636 {sc : SC} {m : Mem} {k : Kst} {l4 l5 l6 s0 : Int32} (hL : OL k 0) (hM : OM k 80) (ho : shp k 105 = (4, 1)) : run (some sc) (285, 636, [.retAddr 1, .ref 0, .ref 80, .ref 105, .int l4, .int l5, .int l6], [.int s0]) (m, k) = if s0 = l5 then if l5 = K 0 then ck (inb (K 0) 1) (if lg_cmp (kml k 105 (tn (K 0))) ((l6).toInt64) = K 0 then run (some sc) (285, 660, [.retAddr 1, .ref 0, .ref 80, .ref 105, .int l4, .int l5, .int l6], []) (m, k) else some ((0, K 0), (m, k))) else run (some sc) (285, 660, [.retAddr 1, .ref 0, .ref 80, .ref 105, .int l4, .int l5, .int l6], []) (m, k) else some ((0, K 0), (m, k)) := (st_iload c285_636 rfl).trans ((st_icmp_eq (t := 643) c285_638 rfl).trans (ite_cc ((st_iload c285_643 rfl).trans ((st_if_ne (t := 660) c285_645 rfl).trans (ite_cc ((st_aload_n c285_648 rfl).trans ((st_iconst (v := K 0) c285_649 rfl).trans ((st_lald c285_650 ho).trans (ck_cc ((st_iload c285_651 rfl).trans ((st_i2l c285_653).trans ((st_lcmp c285_654).trans ((st_if_eq (t := 660) c285_655 rfl).trans (ite_cc (rfl) ((st_iconst (v := K 0) c285_658 rfl).trans (st_zret c285_659 mr285 rfl))))))))))) (rfl)))) ((st_iconst (v := K 0) c285_641 rfl).trans (st_zret c285_642 mr285 rfl))))
theorem E285_660 {sc : SC} {m : Mem} {k : Kst} {l4 l5 l6 : Int32} (hL : OL k 0) (hM : OM k 80) (ho : shp k 105 = (4, 1)) : run (some sc) (285, 660, [.retAddr 1, .ref 0, .ref 80, .ref 105, .int l4, .int l5, .int l6], []) (m, k) = run (some sc) (285, 2317, [.retAddr 1, .ref 0, .ref 80, .ref 105, .int l4, .int l5, .int l6], []) (m, k) := st_goto (t := 2317) c285_660 rfl
theorem E285_663 {sc : SC} {m : Mem} {k : Kst} {l4 : Int32} {x5 x6 : Value} (hL : OL k 0) (hM : OM k 80) (ho : shp k 105 = (4, 1)) : run (some sc) (285, 663, [.retAddr 1, .ref 0, .ref 80, .ref 105, .int l4, x5, x6], []) (m, k) = ck (inb (l4 + (K 1)) sc.1) (ck (inb (l4 + (K 2)) sc.1) (cI (run none (ent 97 [.ref 0, .int (sc.2 (tn (l4 + (K 1)))), .int (sc.2 (tn (l4 + (K 2))))]) (m, k)) (fun v h2 => run (some sc) (285, 679, [.retAddr 1, .ref 0, .ref 80, .ref 105, .int l4, x5, x6], [.int v]) h2))) := (st_aload_n c285_663 rfl).trans ((st_aload_s c285_664 rfl).trans ((st_iload c285_665 rfl).trans ((st_iconst (v := K 1) c285_667 rfl).trans ((st_iadd c285_668).trans ((st_sald c285_669).trans (ck_cc ((st_aload_s c285_670 rfl).trans ((st_iload c285_671 rfl).trans ((st_iconst (v := K 2) c285_673 rfl).trans ((st_iadd c285_674).trans ((st_sald c285_675).trans (ck_cc (st_vi c285_676 m285_63 rfl ((OLc hL).trans mo97) rfl rfl)))))))))))))
theorem E285_679 {sc : SC} {m : Mem} {k : Kst} {l4 s0 : Int32} {x5 x6 : Value} (hL : OL k 0) (hM : OM k 80) (ho : shp k 105 = (4, 1)) : run (some sc) (285, 679, [.retAddr 1, .ref 0, .ref 80, .ref 105, .int l4, x5, x6], [.int s0]) (m, k) = ck (inb (l4 + (K 1)) sc.1) (ck (inb (l4 + (K 2)) sc.1) (cI (run none (ent 228 [.ref 80, .int (sc.2 (tn (l4 + (K 1)))), .int (sc.2 (tn (l4 + (K 2))))]) (m, k)) (fun v h2 => run (some sc) (285, 695, [.retAddr 1, .ref 0, .ref 80, .ref 105, .int l4, x5, x6], [.int v, .int s0]) h2))) := (st_aload_n c285_679 rfl).trans ((st_aload_s c285_680 rfl).trans ((st_iload c285_681 rfl).trans ((st_iconst (v := K 1) c285_683 rfl).trans ((st_iadd c285_684).trans ((st_sald c285_685).trans (ck_cc ((st_aload_s c285_686 rfl).trans ((st_iload c285_687 rfl).trans ((st_iconst (v := K 2) c285_689 rfl).trans ((st_iadd c285_690).trans ((st_sald c285_691).trans (ck_cc (st_vi c285_692 m285_66 rfl ((OMc hM).trans mo228) rfl rfl)))))))))))))
theorem E285_695 {sc : SC} {m : Mem} {k : Kst} {l4 s1 s0 : Int32} {x5 x6 : Value} (hL : OL k 0) (hM : OM k 80) (ho : shp k 105 = (4, 1)) : run (some sc) (285, 695, [.retAddr 1, .ref 0, .ref 80, .ref 105, .int l4, x5, x6], [.int s1, .int s0]) (m, k) = if s0 = s1 then run (some sc) (285, 2317, [.retAddr 1, .ref 0, .ref 80, .ref 105, .int l4, x5, x6], []) (m, k) else some ((0, K 0), (m, k)) := (st_icmp_eq (t := 2317) c285_695 rfl).trans (ite_cc (rfl) ((st_iconst (v := K 0) c285_698 rfl).trans (st_zret c285_699 mr285 rfl)))
theorem E285_700 {sc : SC} {m : Mem} {k : Kst} {l4 : Int32} {x5 x6 : Value} (hL : OL k 0) (hM : OM k 80) (ho : shp k 105 = (4, 1)) : run (some sc) (285, 700, [.retAddr 1, .ref 0, .ref 80, .ref 105, .int l4, x5, x6], []) (m, k) = ck (inb (l4 + (K 1)) sc.1) (ck (inb (l4 + (K 2)) sc.1) (cI (run none (ent 98 [.ref 0, .int (sc.2 (tn (l4 + (K 1)))), .int (sc.2 (tn (l4 + (K 2))))]) (m, k)) (fun v h2 => run (some sc) (285, 716, [.retAddr 1, .ref 0, .ref 80, .ref 105, .int l4, x5, x6], [.int v]) h2))) := (st_aload_n c285_700 rfl).trans ((st_aload_s c285_701 rfl).trans ((st_iload c285_702 rfl).trans ((st_iconst (v := K 1) c285_704 rfl).trans ((st_iadd c285_705).trans ((st_sald c285_706).trans (ck_cc ((st_aload_s c285_707 rfl).trans ((st_iload c285_708 rfl).trans ((st_iconst (v := K 2) c285_710 rfl).trans ((st_iadd c285_711).trans ((st_sald c285_712).trans (ck_cc (st_vi c285_713 m285_67 rfl ((OLc hL).trans mo98) rfl rfl)))))))))))))
theorem E285_716 {sc : SC} {m : Mem} {k : Kst} {l4 s0 : Int32} {x5 x6 : Value} (hL : OL k 0) (hM : OM k 80) (ho : shp k 105 = (4, 1)) : run (some sc) (285, 716, [.retAddr 1, .ref 0, .ref 80, .ref 105, .int l4, x5, x6], [.int s0]) (m, k) = ck (inb (l4 + (K 1)) sc.1) (ck (inb (l4 + (K 2)) sc.1) (cI (run none (ent 229 [.ref 80, .int (sc.2 (tn (l4 + (K 1)))), .int (sc.2 (tn (l4 + (K 2))))]) (m, k)) (fun v h2 => run (some sc) (285, 732, [.retAddr 1, .ref 0, .ref 80, .ref 105, .int l4, x5, x6], [.int v, .int s0]) h2))) := (st_aload_n c285_716 rfl).trans ((st_aload_s c285_717 rfl).trans ((st_iload c285_718 rfl).trans ((st_iconst (v := K 1) c285_720 rfl).trans ((st_iadd c285_721).trans ((st_sald c285_722).trans (ck_cc ((st_aload_s c285_723 rfl).trans ((st_iload c285_724 rfl).trans ((st_iconst (v := K 2) c285_726 rfl).trans ((st_iadd c285_727).trans ((st_sald c285_728).trans (ck_cc (st_vi c285_729 m285_70 rfl ((OMc hM).trans mo229) rfl rfl)))))))))))))
theorem E285_732 {sc : SC} {m : Mem} {k : Kst} {l4 s1 s0 : Int32} {x5 x6 : Value} (hL : OL k 0) (hM : OM k 80) (ho : shp k 105 = (4, 1)) : run (some sc) (285, 732, [.retAddr 1, .ref 0, .ref 80, .ref 105, .int l4, x5, x6], [.int s1, .int s0]) (m, k) = if s0 = s1 then run (some sc) (285, 2317, [.retAddr 1, .ref 0, .ref 80, .ref 105, .int l4, x5, x6], []) (m, k) else some ((0, K 0), (m, k)) := (st_icmp_eq (t := 2317) c285_732 rfl).trans (ite_cc (rfl) ((st_iconst (v := K 0) c285_735 rfl).trans (st_zret c285_736 mr285 rfl)))
theorem E285_737 {sc : SC} {m : Mem} {k : Kst} {l4 : Int32} {x5 x6 : Value} (hL : OL k 0) (hM : OM k 80) (ho : shp k 105 = (4, 1)) : run (some sc) (285, 737, [.retAddr 1, .ref 0, .ref 80, .ref 105, .int l4, x5, x6], []) (m, k) = ck (inb (l4 + (K 1)) sc.1) (ck (inb (l4 + (K 2)) sc.1) (cI (run none (ent 99 [.ref 0, .int (sc.2 (tn (l4 + (K 1)))), .int (sc.2 (tn (l4 + (K 2))))]) (m, k)) (fun v h2 => run (some sc) (285, 753, [.retAddr 1, .ref 0, .ref 80, .ref 105, .int l4, x5, x6], [.int v]) h2))) := (st_aload_n c285_737 rfl).trans ((st_aload_s c285_738 rfl).trans ((st_iload c285_739 rfl).trans ((st_iconst (v := K 1) c285_741 rfl).trans ((st_iadd c285_742).trans ((st_sald c285_743).trans (ck_cc ((st_aload_s c285_744 rfl).trans ((st_iload c285_745 rfl).trans ((st_iconst (v := K 2) c285_747 rfl).trans ((st_iadd c285_748).trans ((st_sald c285_749).trans (ck_cc (st_vi c285_750 m285_71 rfl ((OLc hL).trans mo99) rfl rfl)))))))))))))
theorem E285_753 {sc : SC} {m : Mem} {k : Kst} {l4 s0 : Int32} {x5 x6 : Value} (hL : OL k 0) (hM : OM k 80) (ho : shp k 105 = (4, 1)) : run (some sc) (285, 753, [.retAddr 1, .ref 0, .ref 80, .ref 105, .int l4, x5, x6], [.int s0]) (m, k) = ck (inb (l4 + (K 1)) sc.1) (ck (inb (l4 + (K 2)) sc.1) (cI (run none (ent 231 [.ref 80, .int (sc.2 (tn (l4 + (K 1)))), .int (sc.2 (tn (l4 + (K 2))))]) (m, k)) (fun v h2 => run (some sc) (285, 769, [.retAddr 1, .ref 0, .ref 80, .ref 105, .int l4, x5, x6], [.int v, .int s0]) h2))) := (st_aload_n c285_753 rfl).trans ((st_aload_s c285_754 rfl).trans ((st_iload c285_755 rfl).trans ((st_iconst (v := K 1) c285_757 rfl).trans ((st_iadd c285_758).trans ((st_sald c285_759).trans (ck_cc ((st_aload_s c285_760 rfl).trans ((st_iload c285_761 rfl).trans ((st_iconst (v := K 2) c285_763 rfl).trans ((st_iadd c285_764).trans ((st_sald c285_765).trans (ck_cc (st_vi c285_766 m285_74 rfl ((OMc hM).trans mo231) rfl rfl)))))))))))))
theorem E285_769 {sc : SC} {m : Mem} {k : Kst} {l4 s1 s0 : Int32} {x5 x6 : Value} (hL : OL k 0) (hM : OM k 80) (ho : shp k 105 = (4, 1)) : run (some sc) (285, 769, [.retAddr 1, .ref 0, .ref 80, .ref 105, .int l4, x5, x6], [.int s1, .int s0]) (m, k) = if s0 = s1 then run (some sc) (285, 2317, [.retAddr 1, .ref 0, .ref 80, .ref 105, .int l4, x5, x6], []) (m, k) else some ((0, K 0), (m, k)) := (st_icmp_eq (t := 2317) c285_769 rfl).trans (ite_cc (rfl) ((st_iconst (v := K 0) c285_772 rfl).trans (st_zret c285_773 mr285 rfl)))
theorem E285_774 {sc : SC} {m : Mem} {k : Kst} {l4 : Int32} {x5 x6 : Value} (hL : OL k 0) (hM : OM k 80) (ho : shp k 105 = (4, 1)) : run (some sc) (285, 774, [.retAddr 1, .ref 0, .ref 80, .ref 105, .int l4, x5, x6], []) (m, k) = ck (inb (l4 + (K 1)) sc.1) (cI (run none (ent 100 [.ref 0, .int (sc.2 (tn (l4 + (K 1))))]) (m, k)) (fun v h2 => run (some sc) (285, 784, [.retAddr 1, .ref 0, .ref 80, .ref 105, .int l4, x5, x6], [.int v]) h2)) := (st_aload_n c285_774 rfl).trans ((st_aload_s c285_775 rfl).trans ((st_iload c285_776 rfl).trans ((st_iconst (v := K 1) c285_778 rfl).trans ((st_iadd c285_779).trans ((st_sald c285_780).trans (ck_cc (st_vi c285_781 m285_75 rfl ((OLc hL).trans mo100) rfl rfl)))))))
theorem E285_784 {sc : SC} {m : Mem} {k : Kst} {l4 s0 : Int32} {x5 x6 : Value} (hL : OL k 0) (hM : OM k 80) (ho : shp k 105 = (4, 1)) : run (some sc) (285, 784, [.retAddr 1, .ref 0, .ref 80, .ref 105, .int l4, x5, x6], [.int s0]) (m, k) = ck (inb (l4 + (K 1)) sc.1) (cI (run none (ent 234 [.ref 80, .int (sc.2 (tn (l4 + (K 1))))]) (m, k)) (fun v h2 => run (some sc) (285, 794, [.retAddr 1, .ref 0, .ref 80, .ref 105, .int l4, x5, x6], [.int v, .int s0]) h2)) := (st_aload_n c285_784 rfl).trans ((st_aload_s c285_785 rfl).trans ((st_iload c285_786 rfl).trans ((st_iconst (v := K 1) c285_788 rfl).trans ((st_iadd c285_789).trans ((st_sald c285_790).trans (ck_cc (st_vi c285_791 m285_79 rfl ((OMc hM).trans mo234) rfl rfl)))))))
theorem E285_794 {sc : SC} {m : Mem} {k : Kst} {l4 s1 s0 : Int32} {x5 x6 : Value} (hL : OL k 0) (hM : OM k 80) (ho : shp k 105 = (4, 1)) : run (some sc) (285, 794, [.retAddr 1, .ref 0, .ref 80, .ref 105, .int l4, x5, x6], [.int s1, .int s0]) (m, k) = if s0 = s1 then run (some sc) (285, 2317, [.retAddr 1, .ref 0, .ref 80, .ref 105, .int l4, x5, x6], []) (m, k) else some ((0, K 0), (m, k)) := (st_icmp_eq (t := 2317) c285_794 rfl).trans (ite_cc (rfl) ((st_iconst (v := K 0) c285_797 rfl).trans (st_zret c285_798 mr285 rfl)))
theorem E285_799 {sc : SC} {m : Mem} {k : Kst} {l4 : Int32} {x5 x6 : Value} (hL : OL k 0) (hM : OM k 80) (ho : shp k 105 = (4, 1)) : run (some sc) (285, 799, [.retAddr 1, .ref 0, .ref 80, .ref 105, .int l4, x5, x6], []) (m, k) = ck (inb (l4 + (K 1)) sc.1) (cI (run none (ent 101 [.ref 0, .int (sc.2 (tn (l4 + (K 1))))]) (m, k)) (fun v h2 => run (some sc) (285, 809, [.retAddr 1, .ref 0, .ref 80, .ref 105, .int l4, x5, x6], [.int v]) h2)) := (st_aload_n c285_799 rfl).trans ((st_aload_s c285_800 rfl).trans ((st_iload c285_801 rfl).trans ((st_iconst (v := K 1) c285_803 rfl).trans ((st_iadd c285_804).trans ((st_sald c285_805).trans (ck_cc (st_vi c285_806 m285_80 rfl ((OLc hL).trans mo101) rfl rfl)))))))
theorem E285_809 {sc : SC} {m : Mem} {k : Kst} {l4 s0 : Int32} {x5 x6 : Value} (hL : OL k 0) (hM : OM k 80) (ho : shp k 105 = (4, 1)) : run (some sc) (285, 809, [.retAddr 1, .ref 0, .ref 80, .ref 105, .int l4, x5, x6], [.int s0]) (m, k) = ck (inb (l4 + (K 1)) sc.1) (cI (run none (ent 235 [.ref 80, .int (sc.2 (tn (l4 + (K 1))))]) (m, k)) (fun v h2 => run (some sc) (285, 819, [.retAddr 1, .ref 0, .ref 80, .ref 105, .int l4, x5, x6], [.int v, .int s0]) h2)) := (st_aload_n c285_809 rfl).trans ((st_aload_s c285_810 rfl).trans ((st_iload c285_811 rfl).trans ((st_iconst (v := K 1) c285_813 rfl).trans ((st_iadd c285_814).trans ((st_sald c285_815).trans (ck_cc (st_vi c285_816 m285_83 rfl ((OMc hM).trans mo235) rfl rfl)))))))
theorem E285_819 {sc : SC} {m : Mem} {k : Kst} {l4 s1 s0 : Int32} {x5 x6 : Value} (hL : OL k 0) (hM : OM k 80) (ho : shp k 105 = (4, 1)) : run (some sc) (285, 819, [.retAddr 1, .ref 0, .ref 80, .ref 105, .int l4, x5, x6], [.int s1, .int s0]) (m, k) = if s0 = s1 then run (some sc) (285, 2317, [.retAddr 1, .ref 0, .ref 80, .ref 105, .int l4, x5, x6], []) (m, k) else some ((0, K 0), (m, k)) := (st_icmp_eq (t := 2317) c285_819 rfl).trans (ite_cc (rfl) ((st_iconst (v := K 0) c285_822 rfl).trans (st_zret c285_823 mr285 rfl)))
theorem E285_824 {sc : SC} {m : Mem} {k : Kst} {l4 : Int32} {x5 x6 : Value} (hL : OL k 0) (hM : OM k 80) (ho : shp k 105 = (4, 1)) : run (some sc) (285, 824, [.retAddr 1, .ref 0, .ref 80, .ref 105, .int l4, x5, x6], []) (m, k) = ck (inb (l4 + (K 1)) sc.1) (cI (run none (ent 102 [.ref 0, .int (sc.2 (tn (l4 + (K 1))))]) (m, k)) (fun v h2 => run (some sc) (285, 834, [.retAddr 1, .ref 0, .ref 80, .ref 105, .int l4, x5, x6], [.int v]) h2)) := (st_aload_n c285_824 rfl).trans ((st_aload_s c285_825 rfl).trans ((st_iload c285_826 rfl).trans ((st_iconst (v := K 1) c285_828 rfl).trans ((st_iadd c285_829).trans ((st_sald c285_830).trans (ck_cc (st_vi c285_831 m285_84 rfl ((OLc hL).trans mo102) rfl rfl)))))))
theorem E285_834 {sc : SC} {m : Mem} {k : Kst} {l4 s0 : Int32} {x5 x6 : Value} (hL : OL k 0) (hM : OM k 80) (ho : shp k 105 = (4, 1)) : run (some sc) (285, 834, [.retAddr 1, .ref 0, .ref 80, .ref 105, .int l4, x5, x6], [.int s0]) (m, k) = ck (inb (l4 + (K 1)) sc.1) (cI (run none (ent 236 [.ref 80, .int (sc.2 (tn (l4 + (K 1))))]) (m, k)) (fun v h2 => run (some sc) (285, 844, [.retAddr 1, .ref 0, .ref 80, .ref 105, .int l4, x5, x6], [.int v, .int s0]) h2)) := (st_aload_n c285_834 rfl).trans ((st_aload_s c285_835 rfl).trans ((st_iload c285_836 rfl).trans ((st_iconst (v := K 1) c285_838 rfl).trans ((st_iadd c285_839).trans ((st_sald c285_840).trans (ck_cc (st_vi c285_841 m285_87 rfl ((OMc hM).trans mo236) rfl rfl)))))))
theorem E285_844 {sc : SC} {m : Mem} {k : Kst} {l4 s1 s0 : Int32} {x5 x6 : Value} (hL : OL k 0) (hM : OM k 80) (ho : shp k 105 = (4, 1)) : run (some sc) (285, 844, [.retAddr 1, .ref 0, .ref 80, .ref 105, .int l4, x5, x6], [.int s1, .int s0]) (m, k) = if s0 = s1 then run (some sc) (285, 2317, [.retAddr 1, .ref 0, .ref 80, .ref 105, .int l4, x5, x6], []) (m, k) else some ((0, K 0), (m, k)) := (st_icmp_eq (t := 2317) c285_844 rfl).trans (ite_cc (rfl) ((st_iconst (v := K 0) c285_847 rfl).trans (st_zret c285_848 mr285 rfl)))
theorem E285_849 {sc : SC} {m : Mem} {k : Kst} {l4 : Int32} {x5 x6 : Value} (hL : OL k 0) (hM : OM k 80) (ho : shp k 105 = (4, 1)) : run (some sc) (285, 849, [.retAddr 1, .ref 0, .ref 80, .ref 105, .int l4, x5, x6], []) (m, k) = ck (inb (l4 + (K 1)) sc.1) (cI (run none (ent 103 [.ref 0, .int (sc.2 (tn (l4 + (K 1))))]) (m, k)) (fun v h2 => run (some sc) (285, 859, [.retAddr 1, .ref 0, .ref 80, .ref 105, .int l4, x5, x6], [.int v]) h2)) := (st_aload_n c285_849 rfl).trans ((st_aload_s c285_850 rfl).trans ((st_iload c285_851 rfl).trans ((st_iconst (v := K 1) c285_853 rfl).trans ((st_iadd c285_854).trans ((st_sald c285_855).trans (ck_cc (st_vi c285_856 m285_88 rfl ((OLc hL).trans mo103) rfl rfl)))))))
theorem E285_859 {sc : SC} {m : Mem} {k : Kst} {l4 s0 : Int32} {x5 x6 : Value} (hL : OL k 0) (hM : OM k 80) (ho : shp k 105 = (4, 1)) : run (some sc) (285, 859, [.retAddr 1, .ref 0, .ref 80, .ref 105, .int l4, x5, x6], [.int s0]) (m, k) = ck (inb (l4 + (K 1)) sc.1) (cI (run none (ent 237 [.ref 80, .int (sc.2 (tn (l4 + (K 1))))]) (m, k)) (fun v h2 => run (some sc) (285, 869, [.retAddr 1, .ref 0, .ref 80, .ref 105, .int l4, x5, x6], [.int v, .int s0]) h2)) := (st_aload_n c285_859 rfl).trans ((st_aload_s c285_860 rfl).trans ((st_iload c285_861 rfl).trans ((st_iconst (v := K 1) c285_863 rfl).trans ((st_iadd c285_864).trans ((st_sald c285_865).trans (ck_cc (st_vi c285_866 m285_91 rfl ((OMc hM).trans mo237) rfl rfl)))))))
theorem E285_869 {sc : SC} {m : Mem} {k : Kst} {l4 s1 s0 : Int32} {x5 x6 : Value} (hL : OL k 0) (hM : OM k 80) (ho : shp k 105 = (4, 1)) : run (some sc) (285, 869, [.retAddr 1, .ref 0, .ref 80, .ref 105, .int l4, x5, x6], [.int s1, .int s0]) (m, k) = if s0 = s1 then run (some sc) (285, 2317, [.retAddr 1, .ref 0, .ref 80, .ref 105, .int l4, x5, x6], []) (m, k) else some ((0, K 0), (m, k)) := (st_icmp_eq (t := 2317) c285_869 rfl).trans (ite_cc (rfl) ((st_iconst (v := K 0) c285_872 rfl).trans (st_zret c285_873 mr285 rfl)))
theorem E285_874 {sc : SC} {m : Mem} {k : Kst} {l4 : Int32} {x5 x6 : Value} (hL : OL k 0) (hM : OM k 80) (ho : shp k 105 = (4, 1)) : run (some sc) (285, 874, [.retAddr 1, .ref 0, .ref 80, .ref 105, .int l4, x5, x6], []) (m, k) = cI (run none (ent 104 [.ref 0]) (m, k)) (fun v h2 => run (some sc) (285, 878, [.retAddr 1, .ref 0, .ref 80, .ref 105, .int l4, x5, x6], [.int v]) h2) := (st_aload_n c285_874 rfl).trans (st_vi c285_875 m285_92 rfl ((OLc hL).trans mo104) rfl rfl)
theorem E285_878 {sc : SC} {m : Mem} {k : Kst} {l4 s0 : Int32} {x5 x6 : Value} (hL : OL k 0) (hM : OM k 80) (ho : shp k 105 = (4, 1)) : run (some sc) (285, 878, [.retAddr 1, .ref 0, .ref 80, .ref 105, .int l4, x5, x6], [.int s0]) (m, k) = cI (run none (ent 238 [.ref 80]) (m, k)) (fun v h2 => run (some sc) (285, 882, [.retAddr 1, .ref 0, .ref 80, .ref 105, .int l4, x5, x6], [.int v, .int s0]) h2) := (st_aload_n c285_878 rfl).trans (st_vi c285_879 m285_95 rfl ((OMc hM).trans mo238) rfl rfl)
theorem E285_882 {sc : SC} {m : Mem} {k : Kst} {l4 s1 s0 : Int32} {x5 x6 : Value} (hL : OL k 0) (hM : OM k 80) (ho : shp k 105 = (4, 1)) : run (some sc) (285, 882, [.retAddr 1, .ref 0, .ref 80, .ref 105, .int l4, x5, x6], [.int s1, .int s0]) (m, k) = if s0 = s1 then run (some sc) (285, 2317, [.retAddr 1, .ref 0, .ref 80, .ref 105, .int l4, x5, x6], []) (m, k) else some ((0, K 0), (m, k)) := (st_icmp_eq (t := 2317) c285_882 rfl).trans (ite_cc (rfl) ((st_iconst (v := K 0) c285_885 rfl).trans (st_zret c285_886 mr285 rfl)))
theorem E285_887 {sc : SC} {m : Mem} {k : Kst} {l4 : Int32} {x5 x6 : Value} (hL : OL k 0) (hM : OM k 80) (ho : shp k 105 = (4, 1)) : run (some sc) (285, 887, [.retAddr 1, .ref 0, .ref 80, .ref 105, .int l4, x5, x6], []) (m, k) = ck (inb (l4 + (K 1)) sc.1) (ck (inb (l4 + (K 2)) sc.1) (cI (run none (ent 105 [.ref 0, .int (sc.2 (tn (l4 + (K 1)))), .int (sc.2 (tn (l4 + (K 2))))]) (m, k)) (fun v h2 => run (some sc) (285, 903, [.retAddr 1, .ref 0, .ref 80, .ref 105, .int l4, x5, x6], [.int v]) h2))) := (st_aload_n c285_887 rfl).trans ((st_aload_s c285_888 rfl).trans ((st_iload c285_889 rfl).trans ((st_iconst (v := K 1) c285_891 rfl).trans ((st_iadd c285_892).trans ((st_sald c285_893).trans (ck_cc ((st_aload_s c285_894 rfl).trans ((st_iload c285_895 rfl).trans ((st_iconst (v := K 2) c285_897 rfl).trans ((st_iadd c285_898).trans ((st_sald c285_899).trans (ck_cc (st_vi c285_900 m285_96 rfl ((OLc hL).trans mo105) rfl rfl)))))))))))))
theorem E285_903 {sc : SC} {m : Mem} {k : Kst} {l4 s0 : Int32} {x5 x6 : Value} (hL : OL k 0) (hM : OM k 80) (ho : shp k 105 = (4, 1)) : run (some sc) (285, 903, [.retAddr 1, .ref 0, .ref 80, .ref 105, .int l4, x5, x6], [.int s0]) (m, k) = ck (inb (l4 + (K 1)) sc.1) (ck (inb (l4 + (K 2)) sc.1) (cI (run none (ent 240 [.ref 80, .int (sc.2 (tn (l4 + (K 1)))), .int (sc.2 (tn (l4 + (K 2))))]) (m, k)) (fun v h2 => run (some sc) (285, 919, [.retAddr 1, .ref 0, .ref 80, .ref 105, .int l4, x5, x6], [.int v, .int s0]) h2))) := (st_aload_n c285_903 rfl).trans ((st_aload_s c285_904 rfl).trans ((st_iload c285_905 rfl).trans ((st_iconst (v := K 1) c285_907 rfl).trans ((st_iadd c285_908).trans ((st_sald c285_909).trans (ck_cc ((st_aload_s c285_910 rfl).trans ((st_iload c285_911 rfl).trans ((st_iconst (v := K 2) c285_913 rfl).trans ((st_iadd c285_914).trans ((st_sald c285_915).trans (ck_cc (st_vi c285_916 m285_99 rfl ((OMc hM).trans mo240) rfl rfl)))))))))))))
theorem E285_919 {sc : SC} {m : Mem} {k : Kst} {l4 s1 s0 : Int32} {x5 x6 : Value} (hL : OL k 0) (hM : OM k 80) (ho : shp k 105 = (4, 1)) : run (some sc) (285, 919, [.retAddr 1, .ref 0, .ref 80, .ref 105, .int l4, x5, x6], [.int s1, .int s0]) (m, k) = if s0 = s1 then run (some sc) (285, 2317, [.retAddr 1, .ref 0, .ref 80, .ref 105, .int l4, x5, x6], []) (m, k) else some ((0, K 0), (m, k)) := (st_icmp_eq (t := 2317) c285_919 rfl).trans (ite_cc (rfl) ((st_iconst (v := K 0) c285_922 rfl).trans (st_zret c285_923 mr285 rfl)))
theorem E285_924 {sc : SC} {m : Mem} {k : Kst} {l4 : Int32} {x5 x6 : Value} (hL : OL k 0) (hM : OM k 80) (ho : shp k 105 = (4, 1)) : run (some sc) (285, 924, [.retAddr 1, .ref 0, .ref 80, .ref 105, .int l4, x5, x6], []) (m, k) = ck (inb (l4 + (K 1)) sc.1) (ck (inb (l4 + (K 2)) sc.1) (cI (run none (ent 106 [.ref 0, .int (sc.2 (tn (l4 + (K 1)))), .int (sc.2 (tn (l4 + (K 2))))]) (m, k)) (fun v h2 => run (some sc) (285, 940, [.retAddr 1, .ref 0, .ref 80, .ref 105, .int l4, x5, x6], [.int v]) h2))) := (st_aload_n c285_924 rfl).trans ((st_aload_s c285_925 rfl).trans ((st_iload c285_926 rfl).trans ((st_iconst (v := K 1) c285_928 rfl).trans ((st_iadd c285_929).trans ((st_sald c285_930).trans (ck_cc ((st_aload_s c285_931 rfl).trans ((st_iload c285_932 rfl).trans ((st_iconst (v := K 2) c285_934 rfl).trans ((st_iadd c285_935).trans ((st_sald c285_936).trans (ck_cc (st_vi c285_937 m285_100 rfl ((OLc hL).trans mo106) rfl rfl)))))))))))))
theorem E285_940 {sc : SC} {m : Mem} {k : Kst} {l4 s0 : Int32} {x5 x6 : Value} (hL : OL k 0) (hM : OM k 80) (ho : shp k 105 = (4, 1)) : run (some sc) (285, 940, [.retAddr 1, .ref 0, .ref 80, .ref 105, .int l4, x5, x6], [.int s0]) (m, k) = ck (inb (l4 + (K 1)) sc.1) (ck (inb (l4 + (K 2)) sc.1) (cI (run none (ent 241 [.ref 80, .int (sc.2 (tn (l4 + (K 1)))), .int (sc.2 (tn (l4 + (K 2))))]) (m, k)) (fun v h2 => run (some sc) (285, 956, [.retAddr 1, .ref 0, .ref 80, .ref 105, .int l4, x5, x6], [.int v, .int s0]) h2))) := (st_aload_n c285_940 rfl).trans ((st_aload_s c285_941 rfl).trans ((st_iload c285_942 rfl).trans ((st_iconst (v := K 1) c285_944 rfl).trans ((st_iadd c285_945).trans ((st_sald c285_946).trans (ck_cc ((st_aload_s c285_947 rfl).trans ((st_iload c285_948 rfl).trans ((st_iconst (v := K 2) c285_950 rfl).trans ((st_iadd c285_951).trans ((st_sald c285_952).trans (ck_cc (st_vi c285_953 m285_103 rfl ((OMc hM).trans mo241) rfl rfl)))))))))))))
theorem E285_956 {sc : SC} {m : Mem} {k : Kst} {l4 s1 s0 : Int32} {x5 x6 : Value} (hL : OL k 0) (hM : OM k 80) (ho : shp k 105 = (4, 1)) : run (some sc) (285, 956, [.retAddr 1, .ref 0, .ref 80, .ref 105, .int l4, x5, x6], [.int s1, .int s0]) (m, k) = if s0 = s1 then run (some sc) (285, 2317, [.retAddr 1, .ref 0, .ref 80, .ref 105, .int l4, x5, x6], []) (m, k) else some ((0, K 0), (m, k)) := (st_icmp_eq (t := 2317) c285_956 rfl).trans (ite_cc (rfl) ((st_iconst (v := K 0) c285_959 rfl).trans (st_zret c285_960 mr285 rfl)))
theorem E285_961 {sc : SC} {m : Mem} {k : Kst} {l4 : Int32} {x5 x6 : Value} (hL : OL k 0) (hM : OM k 80) (ho : shp k 105 = (4, 1)) : run (some sc) (285, 961, [.retAddr 1, .ref 0, .ref 80, .ref 105, .int l4, x5, x6], []) (m, k) = ck (inb (l4 + (K 1)) sc.1) (ck (inb (l4 + (K 2)) sc.1) (cI (run none (ent 110 [.ref 0, .int (sc.2 (tn (l4 + (K 1)))), .int (sc.2 (tn (l4 + (K 2))))]) (m, k)) (fun v h2 => run (some sc) (285, 977, [.retAddr 1, .ref 0, .ref 80, .ref 105, .int l4, x5, x6], [.int v]) h2))) := (st_aload_n c285_961 rfl).trans ((st_aload_s c285_962 rfl).trans ((st_iload c285_963 rfl).trans ((st_iconst (v := K 1) c285_965 rfl).trans ((st_iadd c285_966).trans ((st_sald c285_967).trans (ck_cc ((st_aload_s c285_968 rfl).trans ((st_iload c285_969 rfl).trans ((st_iconst (v := K 2) c285_971 rfl).trans ((st_iadd c285_972).trans ((st_sald c285_973).trans (ck_cc (st_vi c285_974 m285_104 rfl ((OLc hL).trans mo110) rfl rfl)))))))))))))
theorem E285_977 {sc : SC} {m : Mem} {k : Kst} {l4 s0 : Int32} {x5 x6 : Value} (hL : OL k 0) (hM : OM k 80) (ho : shp k 105 = (4, 1)) : run (some sc) (285, 977, [.retAddr 1, .ref 0, .ref 80, .ref 105, .int l4, x5, x6], [.int s0]) (m, k) = ck (inb (l4 + (K 1)) sc.1) (ck (inb (l4 + (K 2)) sc.1) (cI (run none (ent 242 [.ref 80, .int (sc.2 (tn (l4 + (K 1)))), .int (sc.2 (tn (l4 + (K 2))))]) (m, k)) (fun v h2 => run (some sc) (285, 993, [.retAddr 1, .ref 0, .ref 80, .ref 105, .int l4, x5, x6], [.int v, .int s0]) h2))) := (st_aload_n c285_977 rfl).trans ((st_aload_s c285_978 rfl).trans ((st_iload c285_979 rfl).trans ((st_iconst (v := K 1) c285_981 rfl).trans ((st_iadd c285_982).trans ((st_sald c285_983).trans (ck_cc ((st_aload_s c285_984 rfl).trans ((st_iload c285_985 rfl).trans ((st_iconst (v := K 2) c285_987 rfl).trans ((st_iadd c285_988).trans ((st_sald c285_989).trans (ck_cc (st_vi c285_990 m285_107 rfl ((OMc hM).trans mo242) rfl rfl)))))))))))))
theorem E285_993 {sc : SC} {m : Mem} {k : Kst} {l4 s1 s0 : Int32} {x5 x6 : Value} (hL : OL k 0) (hM : OM k 80) (ho : shp k 105 = (4, 1)) : run (some sc) (285, 993, [.retAddr 1, .ref 0, .ref 80, .ref 105, .int l4, x5, x6], [.int s1, .int s0]) (m, k) = if s0 = s1 then run (some sc) (285, 2317, [.retAddr 1, .ref 0, .ref 80, .ref 105, .int l4, x5, x6], []) (m, k) else some ((0, K 0), (m, k)) := (st_icmp_eq (t := 2317) c285_993 rfl).trans (ite_cc (rfl) ((st_iconst (v := K 0) c285_996 rfl).trans (st_zret c285_997 mr285 rfl)))
theorem E285_998 {sc : SC} {m : Mem} {k : Kst} {l4 : Int32} {x5 x6 : Value} (hL : OL k 0) (hM : OM k 80) (ho : shp k 105 = (4, 1)) : run (some sc) (285, 998, [.retAddr 1, .ref 0, .ref 80, .ref 105, .int l4, x5, x6], []) (m, k) = ck (inb (l4 + (K 1)) sc.1) (ck (inb (l4 + (K 2)) sc.1) (cI (run none (ent 111 [.ref 0, .int (sc.2 (tn (l4 + (K 1)))), .int (sc.2 (tn (l4 + (K 2))))]) (m, k)) (fun v h2 => run (some sc) (285, 1014, [.retAddr 1, .ref 0, .ref 80, .ref 105, .int l4, x5, x6], [.int v]) h2))) := (st_aload_n c285_998 rfl).trans ((st_aload_s c285_999 rfl).trans ((st_iload c285_1000 rfl).trans ((st_iconst (v := K 1) c285_1002 rfl).trans ((st_iadd c285_1003).trans ((st_sald c285_1004).trans (ck_cc ((st_aload_s c285_1005 rfl).trans ((st_iload c285_1006 rfl).trans ((st_iconst (v := K 2) c285_1008 rfl).trans ((st_iadd c285_1009).trans ((st_sald c285_1010).trans (ck_cc (st_vi c285_1011 m285_108 rfl ((OLc hL).trans mo111) rfl rfl)))))))))))))
theorem E285_1014 {sc : SC} {m : Mem} {k : Kst} {l4 s0 : Int32} {x5 x6 : Value} (hL : OL k 0) (hM : OM k 80) (ho : shp k 105 = (4, 1)) : run (some sc) (285, 1014, [.retAddr 1, .ref 0, .ref 80, .ref 105, .int l4, x5, x6], [.int s0]) (m, k) = ck (inb (l4 + (K 1)) sc.1) (ck (inb (l4 + (K 2)) sc.1) (cI (run none (ent 243 [.ref 80, .int (sc.2 (tn (l4 + (K 1)))), .int (sc.2 (tn (l4 + (K 2))))]) (m, k)) (fun v h2 => run (some sc) (285, 1030, [.retAddr 1, .ref 0, .ref 80, .ref 105, .int l4, x5, x6], [.int v, .int s0]) h2))) := (st_aload_n c285_1014 rfl).trans ((st_aload_s c285_1015 rfl).trans ((st_iload c285_1016 rfl).trans ((st_iconst (v := K 1) c285_1018 rfl).trans ((st_iadd c285_1019).trans ((st_sald c285_1020).trans (ck_cc ((st_aload_s c285_1021 rfl).trans ((st_iload c285_1022 rfl).trans ((st_iconst (v := K 2) c285_1024 rfl).trans ((st_iadd c285_1025).trans ((st_sald c285_1026).trans (ck_cc (st_vi c285_1027 m285_111 rfl ((OMc hM).trans mo243) rfl rfl)))))))))))))
theorem E285_1030 {sc : SC} {m : Mem} {k : Kst} {l4 s1 s0 : Int32} {x5 x6 : Value} (hL : OL k 0) (hM : OM k 80) (ho : shp k 105 = (4, 1)) : run (some sc) (285, 1030, [.retAddr 1, .ref 0, .ref 80, .ref 105, .int l4, x5, x6], [.int s1, .int s0]) (m, k) = if s0 = s1 then run (some sc) (285, 2317, [.retAddr 1, .ref 0, .ref 80, .ref 105, .int l4, x5, x6], []) (m, k) else some ((0, K 0), (m, k)) := (st_icmp_eq (t := 2317) c285_1030 rfl).trans (ite_cc (rfl) ((st_iconst (v := K 0) c285_1033 rfl).trans (st_zret c285_1034 mr285 rfl)))
theorem E285_1035 {sc : SC} {m : Mem} {k : Kst} {l4 : Int32} {x5 x6 : Value} (hL : OL k 0) (hM : OM k 80) (ho : shp k 105 = (4, 1)) : run (some sc) (285, 1035, [.retAddr 1, .ref 0, .ref 80, .ref 105, .int l4, x5, x6], []) (m, k) = ck (inb (l4 + (K 1)) sc.1) (ck (inb (l4 + (K 2)) sc.1) (cI (run none (ent 112 [.ref 0, .int (sc.2 (tn (l4 + (K 1)))), .int (sc.2 (tn (l4 + (K 2))))]) (m, k)) (fun v h2 => run (some sc) (285, 1051, [.retAddr 1, .ref 0, .ref 80, .ref 105, .int l4, x5, x6], [.int v]) h2))) := (st_aload_n c285_1035 rfl).trans ((st_aload_s c285_1036 rfl).trans ((st_iload c285_1037 rfl).trans ((st_iconst (v := K 1) c285_1039 rfl).trans ((st_iadd c285_1040).trans ((st_sald c285_1041).trans (ck_cc ((st_aload_s c285_1042 rfl).trans ((st_iload c285_1043 rfl).trans ((st_iconst (v := K 2) c285_1045 rfl).trans ((st_iadd c285_1046).trans ((st_sald c285_1047).trans (ck_cc (st_vi c285_1048 m285_112 rfl ((OLc hL).trans mo112) rfl rfl)))))))))))))
theorem E285_1051 {sc : SC} {m : Mem} {k : Kst} {l4 s0 : Int32} {x5 x6 : Value} (hL : OL k 0) (hM : OM k 80) (ho : shp k 105 = (4, 1)) : run (some sc) (285, 1051, [.retAddr 1, .ref 0, .ref 80, .ref 105, .int l4, x5, x6], [.int s0]) (m, k) = ck (inb (l4 + (K 1)) sc.1) (ck (inb (l4 + (K 2)) sc.1) (cI (run none (ent 244 [.ref 80, .int (sc.2 (tn (l4 + (K 1)))), .int (sc.2 (tn (l4 + (K 2))))]) (m, k)) (fun v h2 => run (some sc) (285, 1067, [.retAddr 1, .ref 0, .ref 80, .ref 105, .int l4, x5, x6], [.int v, .int s0]) h2))) := (st_aload_n c285_1051 rfl).trans ((st_aload_s c285_1052 rfl).trans ((st_iload c285_1053 rfl).trans ((st_iconst (v := K 1) c285_1055 rfl).trans ((st_iadd c285_1056).trans ((st_sald c285_1057).trans (ck_cc ((st_aload_s c285_1058 rfl).trans ((st_iload c285_1059 rfl).trans ((st_iconst (v := K 2) c285_1061 rfl).trans ((st_iadd c285_1062).trans ((st_sald c285_1063).trans (ck_cc (st_vi c285_1064 m285_115 rfl ((OMc hM).trans mo244) rfl rfl)))))))))))))
theorem E285_1067 {sc : SC} {m : Mem} {k : Kst} {l4 s1 s0 : Int32} {x5 x6 : Value} (hL : OL k 0) (hM : OM k 80) (ho : shp k 105 = (4, 1)) : run (some sc) (285, 1067, [.retAddr 1, .ref 0, .ref 80, .ref 105, .int l4, x5, x6], [.int s1, .int s0]) (m, k) = if s0 = s1 then run (some sc) (285, 2317, [.retAddr 1, .ref 0, .ref 80, .ref 105, .int l4, x5, x6], []) (m, k) else some ((0, K 0), (m, k)) := (st_icmp_eq (t := 2317) c285_1067 rfl).trans (ite_cc (rfl) ((st_iconst (v := K 0) c285_1070 rfl).trans (st_zret c285_1071 mr285 rfl)))
theorem E285_1072 {sc : SC} {m : Mem} {k : Kst} {l4 : Int32} {x5 x6 : Value} (hL : OL k 0) (hM : OM k 80) (ho : shp k 105 = (4, 1)) : run (some sc) (285, 1072, [.retAddr 1, .ref 0, .ref 80, .ref 105, .int l4, x5, x6], []) (m, k) = ck (inb (l4 + (K 1)) sc.1) (ck (inb (l4 + (K 2)) sc.1) (ck (inb (l4 + (K 3)) sc.1) (cI (run none (ent 118 [.ref 0, .int (sc.2 (tn (l4 + (K 1)))), .int (sc.2 (tn (l4 + (K 2)))), .int (sc.2 (tn (l4 + (K 3))))]) (m, k)) (fun v h2 => run (some sc) (285, 1094, [.retAddr 1, .ref 0, .ref 80, .ref 105, .int l4, x5, x6], [.int v]) h2)))) := (st_aload_n c285_1072 rfl).trans ((st_aload_s c285_1073 rfl).trans ((st_iload c285_1074 rfl).trans ((st_iconst (v := K 1) c285_1076 rfl).trans ((st_iadd c285_1077).trans ((st_sald c285_1078).trans (ck_cc ((st_aload_s c285_1079 rfl).trans ((st_iload c285_1080 rfl).trans ((st_iconst (v := K 2) c285_1082 rfl).trans ((st_iadd c285_1083).trans ((st_sald c285_1084).trans (ck_cc ((st_aload_s c285_1085 rfl).trans ((st_iload c285_1086 rfl).trans ((st_iconst (v := K 3) c285_1088 rfl).trans ((st_iadd c285_1089).trans ((st_sald c285_1090).trans (ck_cc (st_vi c285_1091 m285_116 rfl ((OLc hL).trans mo118) rfl rfl)))))))))))))))))))
theorem E285_1094 {sc : SC} {m : Mem} {k : Kst} {l4 s0 : Int32} {x5 x6 : Value} (hL : OL k 0) (hM : OM k 80) (ho : shp k 105 = (4, 1)) : run (some sc) (285, 1094, [.retAddr 1, .ref 0, .ref 80, .ref 105, .int l4, x5, x6], [.int s0]) (m, k) = ck (inb (l4 + (K 1)) sc.1) (ck (inb (l4 + (K 2)) sc.1) (ck (inb (l4 + (K 3)) sc.1) (cI (run none (ent 205 [.ref 80, .int (sc.2 (tn (l4 + (K 1)))), .int (sc.2 (tn (l4 + (K 2)))), .int (sc.2 (tn (l4 + (K 3))))]) (m, k)) (fun v h2 => run (some sc) (285, 1116, [.retAddr 1, .ref 0, .ref 80, .ref 105, .int l4, x5, x6], [.int v, .int s0]) h2)))) := (st_aload_n c285_1094 rfl).trans ((st_aload_s c285_1095 rfl).trans ((st_iload c285_1096 rfl).trans ((st_iconst (v := K 1) c285_1098 rfl).trans ((st_iadd c285_1099).trans ((st_sald c285_1100).trans (ck_cc ((st_aload_s c285_1101 rfl).trans ((st_iload c285_1102 rfl).trans ((st_iconst (v := K 2) c285_1104 rfl).trans ((st_iadd c285_1105).trans ((st_sald c285_1106).trans (ck_cc ((st_aload_s c285_1107 rfl).trans ((st_iload c285_1108 rfl).trans ((st_iconst (v := K 3) c285_1110 rfl).trans ((st_iadd c285_1111).trans ((st_sald c285_1112).trans (ck_cc (st_vi c285_1113 m285_120 rfl ((OMc hM).trans mo205) rfl rfl)))))))))))))))))))
theorem E285_1116 {sc : SC} {m : Mem} {k : Kst} {l4 s1 s0 : Int32} {x5 x6 : Value} (hL : OL k 0) (hM : OM k 80) (ho : shp k 105 = (4, 1)) : run (some sc) (285, 1116, [.retAddr 1, .ref 0, .ref 80, .ref 105, .int l4, x5, x6], [.int s1, .int s0]) (m, k) = if s0 = s1 then run (some sc) (285, 2317, [.retAddr 1, .ref 0, .ref 80, .ref 105, .int l4, x5, x6], []) (m, k) else some ((0, K 0), (m, k)) := (st_icmp_eq (t := 2317) c285_1116 rfl).trans (ite_cc (rfl) ((st_iconst (v := K 0) c285_1119 rfl).trans (st_zret c285_1120 mr285 rfl)))
theorem E285_1121 {sc : SC} {m : Mem} {k : Kst} {l4 : Int32} {x5 x6 : Value} (hL : OL k 0) (hM : OM k 80) (ho : shp k 105 = (4, 1)) : run (some sc) (285, 1121, [.retAddr 1, .ref 0, .ref 80, .ref 105, .int l4, x5, x6], []) (m, k) = ck (inb (l4 + (K 1)) sc.1) (ck (inb (l4 + (K 2)) sc.1) (ck (inb (l4 + (K 3)) sc.1) (ck (inb (l4 + (K 4)) sc.1) (cI (run none (ent 119 [.ref 0, .int (sc.2 (tn (l4 + (K 1)))), .int (sc.2 (tn (l4 + (K 2)))), .int (sc.2 (tn (l4 + (K 3)))), .int (sc.2 (tn (l4 + (K 4))))]) (m, k)) (fun v h2 => run (some sc) (285, 1149, [.retAddr 1, .ref 0, .ref 80, .ref 105, .int l4, x5, x6], [.int v]) h2))))) := (st_aload_n c285_1121 rfl).trans ((st_aload_s c285_1122 rfl).trans ((st_iload c285_1123 rfl).trans ((st_iconst (v := K 1) c285_1125 rfl).trans ((st_iadd c285_1126).trans ((st_sald c285_1127).trans (ck_cc ((st_aload_s c285_1128 rfl).trans ((st_iload c285_1129 rfl).trans ((st_iconst (v := K 2) c285_1131 rfl).trans ((st_iadd c285_1132).trans ((st_sald c285_1133).trans (ck_cc ((st_aload_s c285_1134 rfl).trans ((st_iload c285_1135 rfl).trans ((st_iconst (v := K 3) c285_1137 rfl).trans ((st_iadd c285_1138).trans ((st_sald c285_1139).trans (ck_cc ((st_aload_s c285_1140 rfl).trans ((st_iload c285_1141 rfl).trans ((st_iconst (v := K 4) c285_1143 rfl).trans ((st_iadd c285_1144).trans ((st_sald c285_1145).trans (ck_cc (st_vi c285_1146 m285_121 rfl ((OLc hL).trans mo119) rfl rfl)))))))))))))))))))))))))
theorem E285_1149 {sc : SC} {m : Mem} {k : Kst} {l4 s0 : Int32} {x5 x6 : Value} (hL : OL k 0) (hM : OM k 80) (ho : shp k 105 = (4, 1)) : run (some sc) (285, 1149, [.retAddr 1, .ref 0, .ref 80, .ref 105, .int l4, x5, x6], [.int s0]) (m, k) = ck (inb (l4 + (K 1)) sc.1) (ck (inb (l4 + (K 2)) sc.1) (ck (inb (l4 + (K 3)) sc.1) (ck (inb (l4 + (K 4)) sc.1) (cI (run none (ent 206 [.ref 80, .int (sc.2 (tn (l4 + (K 1)))), .int (sc.2 (tn (l4 + (K 2)))), .int (sc.2 (tn (l4 + (K 3)))), .int (sc.2 (tn (l4 + (K 4))))]) (m, k)) (fun v h2 => run (some sc) (285, 1177, [.retAddr 1, .ref 0, .ref 80, .ref 105, .int l4, x5, x6], [.int v, .int s0]) h2))))) := (st_aload_n c285_1149 rfl).trans ((st_aload_s c285_1150 rfl).trans ((st_iload c285_1151 rfl).trans ((st_iconst (v := K 1) c285_1153 rfl).trans ((st_iadd c285_1154).trans ((st_sald c285_1155).trans (ck_cc ((st_aload_s c285_1156 rfl).trans ((st_iload c285_1157 rfl).trans ((st_iconst (v := K 2) c285_1159 rfl).trans ((st_iadd c285_1160).trans ((st_sald c285_1161).trans (ck_cc ((st_aload_s c285_1162 rfl).trans ((st_iload c285_1163 rfl).trans ((st_iconst (v := K 3) c285_1165 rfl).trans ((st_iadd c285_1166).trans ((st_sald c285_1167).trans (ck_cc ((st_aload_s c285_1168 rfl).trans ((st_iload c285_1169 rfl).trans ((st_iconst (v := K 4) c285_1171 rfl).trans ((st_iadd c285_1172).trans ((st_sald c285_1173).trans (ck_cc (st_vi c285_1174 m285_125 rfl ((OMc hM).trans mo206) rfl rfl)))))))))))))))))))))))))
theorem E285_1177 {sc : SC} {m : Mem} {k : Kst} {l4 s1 s0 : Int32} {x5 x6 : Value} (hL : OL k 0) (hM : OM k 80) (ho : shp k 105 = (4, 1)) : run (some sc) (285, 1177, [.retAddr 1, .ref 0, .ref 80, .ref 105, .int l4, x5, x6], [.int s1, .int s0]) (m, k) = if s0 = s1 then run (some sc) (285, 2317, [.retAddr 1, .ref 0, .ref 80, .ref 105, .int l4, x5, x6], []) (m, k) else some ((0, K 0), (m, k)) := (st_icmp_eq (t := 2317) c285_1177 rfl).trans (ite_cc (rfl) ((st_iconst (v := K 0) c285_1180 rfl).trans (st_zret c285_1181 mr285 rfl)))
theorem E285_1182 {sc : SC} {m : Mem} {k : Kst} {l4 : Int32} {x5 x6 : Value} (hL : OL k 0) (hM : OM k 80) (ho : shp k 105 = (4, 1)) : run (some sc) (285, 1182, [.retAddr 1, .ref 0, .ref 80, .ref 105, .int l4, x5, x6], []) (m, k) = ck (inb (l4 + (K 1)) sc.1) (ck (inb (l4 + (K 2)) sc.1) (ck (inb (l4 + (K 3)) sc.1) (cI (run none (ent 120 [.ref 0, .int (sc.2 (tn (l4 + (K 1)))), .int (sc.2 (tn (l4 + (K 2)))), .int (sc.2 (tn (l4 + (K 3))))]) (m, k)) (fun v h2 => run (some sc) (285, 1204, [.retAddr 1, .ref 0, .ref 80, .ref 105, .int l4, x5, x6], [.int v]) h2)))) := (st_aload_n c285_1182 rfl).trans ((st_aload_s c285_1183 rfl).trans ((st_iload c285_1184 rfl).trans ((st_iconst (v := K 1) c285_1186 rfl).trans ((st_iadd c285_1187).trans ((st_sald c285_1188).trans (ck_cc ((st_aload_s c285_1189 rfl).trans ((st_iload c285_1190 rfl).trans ((st_iconst (v := K 2) c285_1192 rfl).trans ((st_iadd c285_1193).trans ((st_sald c285_1194).trans (ck_cc ((st_aload_s c285_1195 rfl).trans ((st_iload c285_1196 rfl).trans ((st_iconst (v := K 3) c285_1198 rfl).trans ((st_iadd c285_1199).trans ((st_sald c285_1200).trans (ck_cc (st_vi c285_1201 m285_126 rfl ((OLc hL).trans mo120) rfl rfl)))))))))))))))))))
theorem E285_1204 {sc : SC} {m : Mem} {k : Kst} {l4 s0 : Int32} {x5 x6 : Value} (hL : OL k 0) (hM : OM k 80) (ho : shp k 105 = (4, 1)) : run (some sc) (285, 1204, [.retAddr 1, .ref 0, .ref 80, .ref 105, .int l4, x5, x6], [.int s0]) (m, k) = ck (inb (l4 + (K 1)) sc.1) (ck (inb (l4 + (K 2)) sc.1) (ck (inb (l4 + (K 3)) sc.1) (cI (run none (ent 207 [.ref 80, .int (sc.2 (tn (l4 + (K 1)))), .int (sc.2 (tn (l4 + (K 2)))), .int (sc.2 (tn (l4 + (K 3))))]) (m, k)) (fun v h2 => run (some sc) (285, 1226, [.retAddr 1, .ref 0, .ref 80, .ref 105, .int l4, x5, x6], [.int v, .int s0]) h2)))) := (st_aload_n c285_1204 rfl).trans ((st_aload_s c285_1205 rfl).trans ((st_iload c285_1206 rfl).trans ((st_iconst (v := K 1) c285_1208 rfl).trans ((st_iadd c285_1209).trans ((st_sald c285_1210).trans (ck_cc ((st_aload_s c285_1211 rfl).trans ((st_iload c285_1212 rfl).trans ((st_iconst (v := K 2) c285_1214 rfl).trans ((st_iadd c285_1215).trans ((st_sald c285_1216).trans (ck_cc ((st_aload_s c285_1217 rfl).trans ((st_iload c285_1218 rfl).trans ((st_iconst (v := K 3) c285_1220 rfl).trans ((st_iadd c285_1221).trans ((st_sald c285_1222).trans (ck_cc (st_vi c285_1223 m285_129 rfl ((OMc hM).trans mo207) rfl rfl)))))))))))))))))))
theorem E285_1226 {sc : SC} {m : Mem} {k : Kst} {l4 s1 s0 : Int32} {x5 x6 : Value} (hL : OL k 0) (hM : OM k 80) (ho : shp k 105 = (4, 1)) : run (some sc) (285, 1226, [.retAddr 1, .ref 0, .ref 80, .ref 105, .int l4, x5, x6], [.int s1, .int s0]) (m, k) = if s0 = s1 then run (some sc) (285, 2317, [.retAddr 1, .ref 0, .ref 80, .ref 105, .int l4, x5, x6], []) (m, k) else some ((0, K 0), (m, k)) := (st_icmp_eq (t := 2317) c285_1226 rfl).trans (ite_cc (rfl) ((st_iconst (v := K 0) c285_1229 rfl).trans (st_zret c285_1230 mr285 rfl)))
theorem E285_1231 {sc : SC} {m : Mem} {k : Kst} {l4 : Int32} {x5 x6 : Value} (hL : OL k 0) (hM : OM k 80) (ho : shp k 105 = (4, 1)) : run (some sc) (285, 1231, [.retAddr 1, .ref 0, .ref 80, .ref 105, .int l4, x5, x6], []) (m, k) = ck (inb (l4 + (K 1)) sc.1) (ck (inb (l4 + (K 2)) sc.1) (cI (run none (ent 117 [.ref 0, .int (sc.2 (tn (l4 + (K 1)))), .int (sc.2 (tn (l4 + (K 2))))]) (m, k)) (fun v h2 => run (some sc) (285, 1247, [.retAddr 1, .ref 0, .ref 80, .ref 105, .int l4, x5, x6], [.int v]) h2))) := (st_aload_n c285_1231 rfl).trans ((st_aload_s c285_1232 rfl).trans ((st_iload c285_1233 rfl).trans ((st_iconst (v := K 1) c285_1235 rfl).trans ((st_iadd c285_1236).trans ((st_sald c285_1237).trans (ck_cc ((st_aload_s c285_1238 rfl).trans ((st_iload c285_1239 rfl).trans ((st_iconst (v := K 2) c285_1241 rfl).trans ((st_iadd c285_1242).trans ((st_sald c285_1243).trans (ck_cc (st_vi c285_1244 m285_130 rfl ((OLc hL).trans mo117) rfl rfl)))))))))))))
theorem E285_1247 {sc : SC} {m : Mem} {k : Kst} {l4 s0 : Int32} {x5 x6 : Value} (hL : OL k 0) (hM : OM k 80) (ho : shp k 105 = (4, 1)) : run (some sc) (285, 1247, [.retAddr 1, .ref 0, .ref 80, .ref 105, .int l4, x5, x6], [.int s0]) (m, k) = ck (inb (l4 + (K 1)) sc.1) (ck (inb (l4 + (K 2)) sc.1) (cI (run none (ent 245 [.ref 80, .int (sc.2 (tn (l4 + (K 1)))), .int (sc.2 (tn (l4 + (K 2))))]) (m, k)) (fun v h2 => run (some sc) (285, 1263, [.retAddr 1, .ref 0, .ref 80, .ref 105, .int l4, x5, x6], [.int v, .int s0]) h2))) := (st_aload_n c285_1247 rfl).trans ((st_aload_s c285_1248 rfl).trans ((st_iload c285_1249 rfl).trans ((st_iconst (v := K 1) c285_1251 rfl).trans ((st_iadd c285_1252).trans ((st_sald c285_1253).trans (ck_cc ((st_aload_s c285_1254 rfl).trans ((st_iload c285_1255 rfl).trans ((st_iconst (v := K 2) c285_1257 rfl).trans ((st_iadd c285_1258).trans ((st_sald c285_1259).trans (ck_cc (st_vi c285_1260 m285_133 rfl ((OMc hM).trans mo245) rfl rfl)))))))))))))
theorem E285_1263 {sc : SC} {m : Mem} {k : Kst} {l4 s1 s0 : Int32} {x5 x6 : Value} (hL : OL k 0) (hM : OM k 80) (ho : shp k 105 = (4, 1)) : run (some sc) (285, 1263, [.retAddr 1, .ref 0, .ref 80, .ref 105, .int l4, x5, x6], [.int s1, .int s0]) (m, k) = if s0 = s1 then run (some sc) (285, 2317, [.retAddr 1, .ref 0, .ref 80, .ref 105, .int l4, x5, x6], []) (m, k) else some ((0, K 0), (m, k)) := (st_icmp_eq (t := 2317) c285_1263 rfl).trans (ite_cc (rfl) ((st_iconst (v := K 0) c285_1266 rfl).trans (st_zret c285_1267 mr285 rfl)))
theorem E285_1268 {sc : SC} {m : Mem} {k : Kst} {l4 : Int32} {x5 x6 : Value} (hL : OL k 0) (hM : OM k 80) (ho : shp k 105 = (4, 1)) : run (some sc) (285, 1268, [.retAddr 1, .ref 0, .ref 80, .ref 105, .int l4, x5, x6], []) (m, k) = ck (inb (l4 + (K 1)) sc.1) (cI (run none (ent 130 [.ref 0, .int (sc.2 (tn (l4 + (K 1))))]) (m, k)) (fun v h2 => run (some sc) (285, 1278, [.retAddr 1, .ref 0, .ref 80, .ref 105, .int l4, x5, x6], [.int v]) h2)) := (st_aload_n c285_1268 rfl).trans ((st_aload_s c285_1269 rfl).trans ((st_iload c285_1270 rfl).trans ((st_iconst (v := K 1) c285_1272 rfl).trans ((st_iadd c285_1273).trans ((st_sald c285_1274).trans (ck_cc (st_vi c285_1275 m285_134 rfl ((OLc hL).trans mo130) rfl rfl)))))))
theorem E285_1278 {sc : SC} {m : Mem} {k : Kst} {l4 s0 : Int32} {x5 x6 : Value} (hL : OL k 0) (hM : OM k 80) (ho : shp k 105 = (4, 1)) : run (some sc) (285, 1278, [.retAddr 1, .ref 0, .ref 80, .ref 105, .int l4, x5, x6], [.int s0]) (m, k) = ck (inb (l4 + (K 1)) sc.1) (cI (run none (ent 249 [.ref 80, .int (sc.2 (tn (l4 + (K 1))))]) (m, k)) (fun v h2 => run (some sc) (285, 1288, [.retAddr 1, .ref 0, .ref 80, .ref 105, .int l4, x5, x6], [.int v, .int s0]) h2)) := (st_aload_n c285_1278 rfl).trans ((st_aload_s c285_1279 rfl).trans ((st_iload c285_1280 rfl).trans ((st_iconst (v := K 1) c285_1282 rfl).trans ((st_iadd c285_1283).trans ((st_sald c285_1284).trans (ck_cc (st_vi c285_1285 m285_137 rfl ((OMc hM).trans mo249) rfl rfl)))))))
theorem E285_1288 {sc : SC} {m : Mem} {k : Kst} {l4 s1 s0 : Int32} {x5 x6 : Value} (hL : OL k 0) (hM : OM k 80) (ho : shp k 105 = (4, 1)) : run (some sc) (285, 1288, [.retAddr 1, .ref 0, .ref 80, .ref 105, .int l4, x5, x6], [.int s1, .int s0]) (m, k) = if s0 = s1 then run (some sc) (285, 2317, [.retAddr 1, .ref 0, .ref 80, .ref 105, .int l4, x5, x6], []) (m, k) else some ((0, K 0), (m, k)) := (st_icmp_eq (t := 2317) c285_1288 rfl).trans (ite_cc (rfl) ((st_iconst (v := K 0) c285_1291 rfl).trans (st_zret c285_1292 mr285 rfl)))
theorem E285_1293 {sc : SC} {m : Mem} {k : Kst} {l4 : Int32} {x5 x6 : Value} (hL : OL k 0) (hM : OM k 80) (ho : shp k 105 = (4, 1)) : run (some sc) (285, 1293, [.retAddr 1, .ref 0, .ref 80, .ref 105, .int l4, x5, x6], []) (m, k) = ck (inb (l4 + (K 1)) sc.1) (ck (inb (l4 + (K 2)) sc.1) (cI (run none (ent 131 [.ref 0, .int (sc.2 (tn (l4 + (K 1)))), .int (sc.2 (tn (l4 + (K 2))))]) (m, k)) (fun v h2 => run (some sc) (285, 1309, [.retAddr 1, .ref 0, .ref 80, .ref 105, .int l4, x5, x6], [.int v]) h2))) := (st_aload_n c285_1293 rfl).trans ((st_aload_s c285_1294 rfl).trans ((st_iload c285_1295 rfl).trans ((st_iconst (v := K 1) c285_1297 rfl).trans ((st_iadd c285_1298).trans ((st_sald c285_1299).trans (ck_cc ((st_aload_s c285_1300 rfl).trans ((st_iload c285_1301 rfl).trans ((st_iconst (v := K 2) c285_1303 rfl).trans ((st_iadd c285_1304).trans ((st_sald c285_1305).trans (ck_cc (st_vi c285_1306 m285_138 rfl ((OLc hL).trans mo131) rfl rfl)))))))))))))
theorem E285_1309 {sc : SC} {m : Mem} {k : Kst} {l4 s0 : Int32} {x5 x6 : Value} (hL : OL k 0) (hM : OM k 80) (ho : shp k 105 = (4, 1)) : run (some sc) (285, 1309, [.retAddr 1, .ref 0, .ref 80, .ref 105, .int l4, x5, x6], [.int s0]) (m, k) = ck (inb (l4 + (K 1)) sc.1) (ck (inb (l4 + (K 2)) sc.1) (cI (run none (ent 250 [.ref 80, .int (sc.2 (tn (l4 + (K 1)))), .int (sc.2 (tn (l4 + (K 2))))]) (m, k)) (fun v h2 => run (some sc) (285, 1325, [.retAddr 1, .ref 0, .ref 80, .ref 105, .int l4, x5, x6], [.int v, .int s0]) h2))) := (st_aload_n c285_1309 rfl).trans ((st_aload_s c285_1310 rfl).trans ((st_iload c285_1311 rfl).trans ((st_iconst (v := K 1) c285_1313 rfl).trans ((st_iadd c285_1314).trans ((st_sald c285_1315).trans (ck_cc ((st_aload_s c285_1316 rfl).trans ((st_iload c285_1317 rfl).trans ((st_iconst (v := K 2) c285_1319 rfl).trans ((st_iadd c285_1320).trans ((st_sald c285_1321).trans (ck_cc (st_vi c285_1322 m285_141 rfl ((OMc hM).trans mo250) rfl rfl)))))))))))))
theorem E285_1325 {sc : SC} {m : Mem} {k : Kst} {l4 s1 s0 : Int32} {x5 x6 : Value} (hL : OL k 0) (hM : OM k 80) (ho : shp k 105 = (4, 1)) : run (some sc) (285, 1325, [.retAddr 1, .ref 0, .ref 80, .ref 105, .int l4, x5, x6], [.int s1, .int s0]) (m, k) = if s0 = s1 then run (some sc) (285, 2317, [.retAddr 1, .ref 0, .ref 80, .ref 105, .int l4, x5, x6], []) (m, k) else some ((0, K 0), (m, k)) := (st_icmp_eq (t := 2317) c285_1325 rfl).trans (ite_cc (rfl) ((st_iconst (v := K 0) c285_1328 rfl).trans (st_zret c285_1329 mr285 rfl)))
theorem E285_1330 {sc : SC} {m : Mem} {k : Kst} {l4 : Int32} {x5 x6 : Value} (hL : OL k 0) (hM : OM k 80) (ho : shp k 105 = (4, 1)) : run (some sc) (285, 1330, [.retAddr 1, .ref 0, .ref 80, .ref 105, .int l4, x5, x6], []) (m, k) = ck (inb (l4 + (K 1)) sc.1) (ck (inb (l4 + (K 2)) sc.1) (cI (run none (ent 132 [.ref 0, .int (sc.2 (tn (l4 + (K 1)))), .int (sc.2 (tn (l4 + (K 2))))]) (m, k)) (fun v h2 => run (some sc) (285, 1346, [.retAddr 1, .ref 0, .ref 80, .ref 105, .int l4, x5, x6], [.int v]) h2))) := (st_aload_n c285_1330 rfl).trans ((st_aload_s c285_1331 rfl).trans ((st_iload c285_1332 rfl).trans ((st_iconst (v := K 1) c285_1334 rfl).trans ((st_iadd c285_1335).trans ((st_sald c285_1336).trans (ck_cc ((st_aload_s c285_1337 rfl).trans ((st_iload c285_1338 rfl).trans ((st_iconst (v := K 2) c285_1340 rfl).trans ((st_iadd c285_1341).trans ((st_sald c285_1342).trans (ck_cc (st_vi c285_1343 m285_142 rfl ((OLc hL).trans mo132) rfl rfl)))))))))))))
theorem E285_1346 {sc : SC} {m : Mem} {k : Kst} {l4 s0 : Int32} {x5 x6 : Value} (hL : OL k 0) (hM : OM k 80) (ho : shp k 105 = (4, 1)) : run (some sc) (285, 1346, [.retAddr 1, .ref 0, .ref 80, .ref 105, .int l4, x5, x6], [.int s0]) (m, k) = ck (inb (l4 + (K 1)) sc.1) (ck (inb (l4 + (K 2)) sc.1) (cI (run none (ent 251 [.ref 80, .int (sc.2 (tn (l4 + (K 1)))), .int (sc.2 (tn (l4 + (K 2))))]) (m, k)) (fun v h2 => run (some sc) (285, 1362, [.retAddr 1, .ref 0, .ref 80, .ref 105, .int l4, x5, x6], [.int v, .int s0]) h2))) := (st_aload_n c285_1346 rfl).trans ((st_aload_s c285_1347 rfl).trans ((st_iload c285_1348 rfl).trans ((st_iconst (v := K 1) c285_1350 rfl).trans ((st_iadd c285_1351).trans ((st_sald c285_1352).trans (ck_cc ((st_aload_s c285_1353 rfl).trans ((st_iload c285_1354 rfl).trans ((st_iconst (v := K 2) c285_1356 rfl).trans ((st_iadd c285_1357).trans ((st_sald c285_1358).trans (ck_cc (st_vi c285_1359 m285_145 rfl ((OMc hM).trans mo251) rfl rfl)))))))))))))
theorem E285_1362 {sc : SC} {m : Mem} {k : Kst} {l4 s1 s0 : Int32} {x5 x6 : Value} (hL : OL k 0) (hM : OM k 80) (ho : shp k 105 = (4, 1)) : run (some sc) (285, 1362, [.retAddr 1, .ref 0, .ref 80, .ref 105, .int l4, x5, x6], [.int s1, .int s0]) (m, k) = if s0 = s1 then run (some sc) (285, 2317, [.retAddr 1, .ref 0, .ref 80, .ref 105, .int l4, x5, x6], []) (m, k) else some ((0, K 0), (m, k)) := (st_icmp_eq (t := 2317) c285_1362 rfl).trans (ite_cc (rfl) ((st_iconst (v := K 0) c285_1365 rfl).trans (st_zret c285_1366 mr285 rfl)))
theorem E285_1367 {sc : SC} {m : Mem} {k : Kst} {l4 : Int32} {x5 x6 : Value} (hL : OL k 0) (hM : OM k 80) (ho : shp k 105 = (4, 1)) : run (some sc) (285, 1367, [.retAddr 1, .ref 0, .ref 80, .ref 105, .int l4, x5, x6], []) (m, k) = ck (inb (l4 + (K 1)) sc.1) (ck (inb (l4 + (K 2)) sc.1) (cI (run none (ent 133 [.ref 0, .int (sc.2 (tn (l4 + (K 1)))), .int (sc.2 (tn (l4 + (K 2))))]) (m, k)) (fun v h2 => run (some sc) (285, 1383, [.retAddr 1, .ref 0, .ref 80, .ref 105, .int l4, x5, x6], [.int v]) h2))) := (st_aload_n c285_1367 rfl).trans ((st_aload_s c285_1368 rfl).trans ((st_iload c285_1369 rfl).trans ((st_iconst (v := K 1) c285_1371 rfl).trans ((st_iadd c285_1372).trans ((st_sald c285_1373).trans (ck_cc ((st_aload_s c285_1374 rfl).trans ((st_iload c285_1375 rfl).trans ((st_iconst (v := K 2) c285_1377 rfl).trans ((st_iadd c285_1378).trans ((st_sald c285_1379).trans (ck_cc (st_vi c285_1380 m285_146 rfl ((OLc hL).trans mo133) rfl rfl)))))))))))))
theorem E285_1383 {sc : SC} {m : Mem} {k : Kst} {l4 s0 : Int32} {x5 x6 : Value} (hL : OL k 0) (hM : OM k 80) (ho : shp k 105 = (4, 1)) : run (some sc) (285, 1383, [.retAddr 1, .ref 0, .ref 80, .ref 105, .int l4, x5, x6], [.int s0]) (m, k) = ck (inb (l4 + (K 1)) sc.1) (ck (inb (l4 + (K 2)) sc.1) (cI (run none (ent 252 [.ref 80, .int (sc.2 (tn (l4 + (K 1)))), .int (sc.2 (tn (l4 + (K 2))))]) (m, k)) (fun v h2 => run (some sc) (285, 1399, [.retAddr 1, .ref 0, .ref 80, .ref 105, .int l4, x5, x6], [.int v, .int s0]) h2))) := (st_aload_n c285_1383 rfl).trans ((st_aload_s c285_1384 rfl).trans ((st_iload c285_1385 rfl).trans ((st_iconst (v := K 1) c285_1387 rfl).trans ((st_iadd c285_1388).trans ((st_sald c285_1389).trans (ck_cc ((st_aload_s c285_1390 rfl).trans ((st_iload c285_1391 rfl).trans ((st_iconst (v := K 2) c285_1393 rfl).trans ((st_iadd c285_1394).trans ((st_sald c285_1395).trans (ck_cc (st_vi c285_1396 m285_149 rfl ((OMc hM).trans mo252) rfl rfl)))))))))))))
theorem E285_1399 {sc : SC} {m : Mem} {k : Kst} {l4 s1 s0 : Int32} {x5 x6 : Value} (hL : OL k 0) (hM : OM k 80) (ho : shp k 105 = (4, 1)) : run (some sc) (285, 1399, [.retAddr 1, .ref 0, .ref 80, .ref 105, .int l4, x5, x6], [.int s1, .int s0]) (m, k) = if s0 = s1 then run (some sc) (285, 2317, [.retAddr 1, .ref 0, .ref 80, .ref 105, .int l4, x5, x6], []) (m, k) else some ((0, K 0), (m, k)) := (st_icmp_eq (t := 2317) c285_1399 rfl).trans (ite_cc (rfl) ((st_iconst (v := K 0) c285_1402 rfl).trans (st_zret c285_1403 mr285 rfl)))
theorem E285_1404 {sc : SC} {m : Mem} {k : Kst} {l4 : Int32} {x5 x6 : Value} (hL : OL k 0) (hM : OM k 80) (ho : shp k 105 = (4, 1)) : run (some sc) (285, 1404, [.retAddr 1, .ref 0, .ref 80, .ref 105, .int l4, x5, x6], []) (m, k) = ck (inb (l4 + (K 1)) sc.1) (ck (inb (l4 + (K 2)) sc.1) (cI (run none (ent 139 [.ref 0, .int (sc.2 (tn (l4 + (K 1)))), .int (sc.2 (tn (l4 + (K 2))))]) (m, k)) (fun v h2 => run (some sc) (285, 1420, [.retAddr 1, .ref 0, .ref 80, .ref 105, .int l4, x5, x6], [.int v]) h2))) := (st_aload_n c285_1404 rfl).trans ((st_aload_s c285_1405 rfl).trans ((st_iload c285_1406 rfl).trans ((st_iconst (v := K 1) c285_1408 rfl).trans ((st_iadd c285_1409).trans ((st_sald c285_1410).trans (ck_cc ((st_aload_s c285_1411 rfl).trans ((st_iload c285_1412 rfl).trans ((st_iconst (v := K 2) c285_1414 rfl).trans ((st_iadd c285_1415).trans ((st_sald c285_1416).trans (ck_cc (st_vi c285_1417 m285_150 rfl ((OLc hL).trans mo139) rfl rfl)))))))))))))
theorem E285_1420 {sc : SC} {m : Mem} {k : Kst} {l4 s0 : Int32} {x5 x6 : Value} (hL : OL k 0) (hM : OM k 80) (ho : shp k 105 = (4, 1)) : run (some sc) (285, 1420, [.retAddr 1, .ref 0, .ref 80, .ref 105, .int l4, x5, x6], [.int s0]) (m, k) = ck (inb (l4 + (K 1)) sc.1) (ck (inb (l4 + (K 2)) sc.1) (cI (run none (ent 267 [.ref 80, .int (sc.2 (tn (l4 + (K 1)))), .int (sc.2 (tn (l4 + (K 2))))]) (m, k)) (fun v h2 => run (some sc) (285, 1436, [.retAddr 1, .ref 0, .ref 80, .ref 105, .int l4, x5, x6], [.int v, .int s0]) h2))) := (st_aload_n c285_1420 rfl).trans ((st_aload_s c285_1421 rfl).trans ((st_iload c285_1422 rfl).trans ((st_iconst (v := K 1) c285_1424 rfl).trans ((st_iadd c285_1425).trans ((st_sald c285_1426).trans (ck_cc ((st_aload_s c285_1427 rfl).trans ((st_iload c285_1428 rfl).trans ((st_iconst (v := K 2) c285_1430 rfl).trans ((st_iadd c285_1431).trans ((st_sald c285_1432).trans (ck_cc (st_vi c285_1433 m285_153 rfl ((OMc hM).trans mo267) rfl rfl)))))))))))))
theorem E285_1436 {sc : SC} {m : Mem} {k : Kst} {l4 s1 s0 : Int32} {x5 x6 : Value} (hL : OL k 0) (hM : OM k 80) (ho : shp k 105 = (4, 1)) : run (some sc) (285, 1436, [.retAddr 1, .ref 0, .ref 80, .ref 105, .int l4, x5, x6], [.int s1, .int s0]) (m, k) = if s0 = s1 then run (some sc) (285, 2317, [.retAddr 1, .ref 0, .ref 80, .ref 105, .int l4, x5, x6], []) (m, k) else some ((0, K 0), (m, k)) := (st_icmp_eq (t := 2317) c285_1436 rfl).trans (ite_cc (rfl) ((st_iconst (v := K 0) c285_1439 rfl).trans (st_zret c285_1440 mr285 rfl)))
theorem E285_1441 {sc : SC} {m : Mem} {k : Kst} {l4 : Int32} {x5 x6 : Value} (hL : OL k 0) (hM : OM k 80) (ho : shp k 105 = (4, 1)) : run (some sc) (285, 1441, [.retAddr 1, .ref 0, .ref 80, .ref 105, .int l4, x5, x6], []) (m, k) = ck (inb (l4 + (K 1)) sc.1) (cI (run none (ent 138 [.ref 0, .int (sc.2 (tn (l4 + (K 1))))]) (m, k)) (fun v h2 => run (some sc) (285, 1451, [.retAddr 1, .ref 0, .ref 80, .ref 105, .int l4, x5, x6], [.int v]) h2)) := (st_aload_n c285_1441 rfl).trans ((st_aload_s c285_1442 rfl).trans ((st_iload c285_1443 rfl).trans ((st_iconst (v := K 1) c285_1445 rfl).trans ((st_iadd c285_1446).trans ((st_sald c285_1447).trans (ck_cc (st_vi c285_1448 m285_154 rfl ((OLc hL).trans mo138) rfl rfl)))))))
theorem E285_1451 {sc : SC} {m : Mem} {k : Kst} {l4 s0 : Int32} {x5 x6 : Value} (hL : OL k 0) (hM : OM k 80) (ho : shp k 105 = (4, 1)) : run (some sc) (285, 1451, [.retAddr 1, .ref 0, .ref 80, .ref 105, .int l4, x5, x6], [.int s0]) (m, k) = ck (inb (l4 + (K 1)) sc.1) (cI (run none (ent 268 [.ref 80, .int (sc.2 (tn (l4 + (K 1))))]) (m, k)) (fun v h2 => run (some sc) (285, 1461, [.retAddr 1, .ref 0, .ref 80, .ref 105, .int l4, x5, x6], [.int v, .int s0]) h2)) := (st_aload_n c285_1451 rfl).trans ((st_aload_s c285_1452 rfl).trans ((st_iload c285_1453 rfl).trans ((st_iconst (v := K 1) c285_1455 rfl).trans ((st_iadd c285_1456).trans ((st_sald c285_1457).trans (ck_cc (st_vi c285_1458 m285_157 rfl ((OMc hM).trans mo268) rfl rfl)))))))
theorem E285_1461 {sc : SC} {m : Mem} {k : Kst} {l4 s1 s0 : Int32} {x5 x6 : Value} (hL : OL k 0) (hM : OM k 80) (ho : shp k 105 = (4, 1)) : run (some sc) (285, 1461, [.retAddr 1, .ref 0, .ref 80, .ref 105, .int l4, x5, x6], [.int s1, .int s0]) (m, k) = if s0 = s1 then run (some sc) (285, 2317, [.retAddr 1, .ref 0, .ref 80, .ref 105, .int l4, x5, x6], []) (m, k) else some ((0, K 0), (m, k)) := (st_icmp_eq (t := 2317) c285_1461 rfl).trans (ite_cc (rfl) ((st_iconst (v := K 0) c285_1464 rfl).trans (st_zret c285_1465 mr285 rfl)))
theorem E285_1466 {sc : SC} {m : Mem} {k : Kst} {l4 : Int32} {x5 x6 : Value} (hL : OL k 0) (hM : OM k 80) (ho : shp k 105 = (4, 1)) : run (some sc) (285, 1466, [.retAddr 1, .ref 0, .ref 80, .ref 105, .int l4, x5, x6], []) (m, k) = ck (inb (l4 + (K 1)) sc.1) (ck (inb (l4 + (K 2)) sc.1) (cI (run none (ent 127 [.ref 0, .int (sc.2 (tn (l4 + (K 1)))), .int (sc.2 (tn (l4 + (K 2))))]) (m, k)) (fun v h2 => run (some sc) (285, 1482, [.retAddr 1, .ref 0, .ref 80, .ref 105, .int l4, x5, x6], [.int v]) h2))) := (st_aload_n c285_1466 rfl).trans ((st_aload_s c285_1467 rfl).trans ((st_iload c285_1468 rfl).trans ((st_iconst (v := K 1) c285_1470 rfl).trans ((st_iadd c285_1471).trans ((st_sald c285_1472).trans (ck_cc ((st_aload_s c285_1473 rfl).trans ((st_iload c285_1474 rfl).trans ((st_iconst (v := K 2) c285_1476 rfl).trans ((st_iadd c285_1477).trans ((st_sald c285_1478).trans (ck_cc (st_vi c285_1479 m285_158 rfl ((OLc hL).trans mo127) rfl rfl)))))))))))))
theorem E285_1482 {sc : SC} {m : Mem} {k : Kst} {l4 s0 : Int32} {x5 x6 : Value} (hL : OL k 0) (hM : OM k 80) (ho : shp k 105 = (4, 1)) : run (some sc) (285, 1482, [.retAddr 1, .ref 0, .ref 80, .ref 105, .int l4, x5, x6], [.int s0]) (m, k) = ck (inb (l4 + (K 1)) sc.1) (ck (inb (l4 + (K 2)) sc.1) (cI (run none (ent 270 [.ref 80, .int (sc.2 (tn (l4 + (K 1)))), .int (sc.2 (tn (l4 + (K 2))))]) (m, k)) (fun v h2 => run (some sc) (285, 1498, [.retAddr 1, .ref 0, .ref 80, .ref 105, .int l4, x5, x6], [.int v, .int s0]) h2))) := (st_aload_n c285_1482 rfl).trans ((st_aload_s c285_1483 rfl).trans ((st_iload c285_1484 rfl).trans ((st_iconst (v := K 1) c285_1486 rfl).trans ((st_iadd c285_1487).trans ((st_sald c285_1488).trans (ck_cc ((st_aload_s c285_1489 rfl).trans ((st_iload c285_1490 rfl).trans ((st_iconst (v := K 2) c285_1492 rfl).trans ((st_iadd c285_1493).trans ((st_sald c285_1494).trans (ck_cc (st_vi c285_1495 m285_161 rfl ((OMc hM).trans mo270) rfl rfl)))))))))))))
theorem E285_1498 {sc : SC} {m : Mem} {k : Kst} {l4 s1 s0 : Int32} {x5 x6 : Value} (hL : OL k 0) (hM : OM k 80) (ho : shp k 105 = (4, 1)) : run (some sc) (285, 1498, [.retAddr 1, .ref 0, .ref 80, .ref 105, .int l4, x5, x6], [.int s1, .int s0]) (m, k) = if s0 = s1 then run (some sc) (285, 2317, [.retAddr 1, .ref 0, .ref 80, .ref 105, .int l4, x5, x6], []) (m, k) else some ((0, K 0), (m, k)) := (st_icmp_eq (t := 2317) c285_1498 rfl).trans (ite_cc (rfl) ((st_iconst (v := K 0) c285_1501 rfl).trans (st_zret c285_1502 mr285 rfl)))
theorem E285_1503 {sc : SC} {m : Mem} {k : Kst} {l4 : Int32} {x5 x6 : Value} (hL : OL k 0) (hM : OM k 80) (ho : shp k 105 = (4, 1)) : run (some sc) (285, 1503, [.retAddr 1, .ref 0, .ref 80, .ref 105, .int l4, x5, x6], []) (m, k) = ck (inb (l4 + (K 1)) sc.1) (ck (inb (l4 + (K 2)) sc.1) (cI (run none (ent 128 [.ref 0, .int (sc.2 (tn (l4 + (K 1)))), .int (sc.2 (tn (l4 + (K 2))))]) (m, k)) (fun v h2 => run (some sc) (285, 1519, [.retAddr 1, .ref 0, .ref 80, .ref 105, .int l4, x5, x6], [.int v]) h2))) := (st_aload_n c285_1503 rfl).trans ((st_aload_s c285_1504 rfl).trans ((st_iload c285_1505 rfl).trans ((st_iconst (v := K 1) c285_1507 rfl).trans ((st_iadd c285_1508).trans ((st_sald c285_1509).trans (ck_cc ((st_aload_s c285_1510 rfl).trans ((st_iload c285_1511 rfl).trans ((st_iconst (v := K 2) c285_1513 rfl).trans ((st_iadd c285_1514).trans ((st_sald c285_1515).trans (ck_cc (st_vi c285_1516 m285_162 rfl ((OLc hL).trans mo128) rfl rfl)))))))))))))
theorem E285_1519 {sc : SC} {m : Mem} {k : Kst} {l4 s0 : Int32} {x5 x6 : Value} (hL : OL k 0) (hM : OM k 80) (ho : shp k 105 = (4, 1)) : run (some sc) (285, 1519, [.retAddr 1, .ref 0, .ref 80, .ref 105, .int l4, x5, x6], [.int s0]) (m, k) = ck (inb (l4 + (K 1)) sc.1) (ck (inb (l4 + (K 2)) sc.1) (cI (run none (ent 271 [.ref 80, .int (sc.2 (tn (l4 + (K 1)))), .int (sc.2 (tn (l4 + (K 2))))]) (m, k)) (fun v h2 => run (some sc) (285, 1535, [.retAddr 1, .ref 0, .ref 80, .ref 105, .int l4, x5, x6], [.int v, .int s0]) h2))) := (st_aload_n c285_1519 rfl).trans ((st_aload_s c285_1520 rfl).trans ((st_iload c285_1521 rfl).trans ((st_iconst (v := K 1) c285_1523 rfl).trans ((st_iadd c285_1524).trans ((st_sald c285_1525).trans (ck_cc ((st_aload_s c285_1526 rfl).trans ((st_iload c285_1527 rfl).trans ((st_iconst (v := K 2) c285_1529 rfl).trans ((st_iadd c285_1530).trans ((st_sald c285_1531).trans (ck_cc (st_vi c285_1532 m285_165 rfl ((OMc hM).trans mo271) rfl rfl)))))))))))))
theorem E285_1535 {sc : SC} {m : Mem} {k : Kst} {l4 s1 s0 : Int32} {x5 x6 : Value} (hL : OL k 0) (hM : OM k 80) (ho : shp k 105 = (4, 1)) : run (some sc) (285, 1535, [.retAddr 1, .ref 0, .ref 80, .ref 105, .int l4, x5, x6], [.int s1, .int s0]) (m, k) = if s0 = s1 then run (some sc) (285, 2317, [.retAddr 1, .ref 0, .ref 80, .ref 105, .int l4, x5, x6], []) (m, k) else some ((0, K 0), (m, k)) := (st_icmp_eq (t := 2317) c285_1535 rfl).trans (ite_cc (rfl) ((st_iconst (v := K 0) c285_1538 rfl).trans (st_zret c285_1539 mr285 rfl)))
theorem E285_1540 {sc : SC} {m : Mem} {k : Kst} {l4 : Int32} {x5 x6 : Value} (hL : OL k 0) (hM : OM k 80) (ho : shp k 105 = (4, 1)) : run (some sc) (285, 1540, [.retAddr 1, .ref 0, .ref 80, .ref 105, .int l4, x5, x6], []) (m, k) = ck (inb (l4 + (K 1)) sc.1) (ck (inb (l4 + (K 2)) sc.1) (cI (run none (ent 123 [.ref 0, .int (sc.2 (tn (l4 + (K 1)))), .int (sc.2 (tn (l4 + (K 2))))]) (m, k)) (fun v h2 => run (some sc) (285, 1556, [.retAddr 1, .ref 0, .ref 80, .ref 105, .int l4, x5, x6], [.int v]) h2))) := (st_aload_n c285_1540 rfl).trans ((st_aload_s c285_1541 rfl).trans ((st_iload c285_1542 rfl).trans ((st_iconst (v := K 1) c285_1544 rfl).trans ((st_iadd c285_1545).trans ((st_sald c285_1546).trans (ck_cc ((st_aload_s c285_1547 rfl).trans ((st_iload c285_1548 rfl).trans ((st_iconst (v := K 2) c285_1550 rfl).trans ((st_iadd c285_1551).trans ((st_sald c285_1552).trans (ck_cc (st_vi c285_1553 m285_166 rfl ((OLc hL).trans mo123) rfl rfl)))))))))))))
theorem E285_1556 {sc : SC} {m : Mem} {k : Kst} {l4 s0 : Int32} {x5 x6 : Value} (hL : OL k 0) (hM : OM k 80) (ho : shp k 105 = (4, 1)) : run (some sc) (285, 1556, [.retAddr 1, .ref 0, .ref 80, .ref 105, .int l4, x5, x6], [.int s0]) (m, k) = ck (inb (l4 + (K 1)) sc.1) (ck (inb (l4 + (K 2)) sc.1) (cI (run none (ent 272 [.ref 80, .int (sc.2 (tn (l4 + (K 1)))), .int (sc.2 (tn (l4 + (K 2))))]) (m, k)) (fun v h2 => run (some sc) (285, 1572, [.retAddr 1, .ref 0, .ref 80, .ref 105, .int l4, x5, x6], [.int v, .int s0]) h2))) := (st_aload_n c285_1556 rfl).trans ((st_aload_s c285_1557 rfl).trans ((st_iload c285_1558 rfl).trans ((st_iconst (v := K 1) c285_1560 rfl).trans ((st_iadd c285_1561).trans ((st_sald c285_1562).trans (ck_cc ((st_aload_s c285_1563 rfl).trans ((st_iload c285_1564 rfl).trans ((st_iconst (v := K 2) c285_1566 rfl).trans ((st_iadd c285_1567).trans ((st_sald c285_1568).trans (ck_cc (st_vi c285_1569 m285_169 rfl ((OMc hM).trans mo272) rfl rfl)))))))))))))
theorem E285_1572 {sc : SC} {m : Mem} {k : Kst} {l4 s1 s0 : Int32} {x5 x6 : Value} (hL : OL k 0) (hM : OM k 80) (ho : shp k 105 = (4, 1)) : run (some sc) (285, 1572, [.retAddr 1, .ref 0, .ref 80, .ref 105, .int l4, x5, x6], [.int s1, .int s0]) (m, k) = if s0 = s1 then run (some sc) (285, 2317, [.retAddr 1, .ref 0, .ref 80, .ref 105, .int l4, x5, x6], []) (m, k) else some ((0, K 0), (m, k)) := (st_icmp_eq (t := 2317) c285_1572 rfl).trans (ite_cc (rfl) ((st_iconst (v := K 0) c285_1575 rfl).trans (st_zret c285_1576 mr285 rfl)))
theorem E285_1577 {sc : SC} {m : Mem} {k : Kst} {l4 : Int32} {x5 x6 : Value} (hL : OL k 0) (hM : OM k 80) (ho : shp k 105 = (4, 1)) : run (some sc) (285, 1577, [.retAddr 1, .ref 0, .ref 80, .ref 105, .int l4, x5, x6], []) (m, k) = ck (inb (l4 + (K 1)) sc.1) (cI (run none (ent 113 [.ref 0, .int (sc.2 (tn (l4 + (K 1))))]) (m, k)) (fun v h2 => run (some sc) (285, 1587, [.retAddr 1, .ref 0, .ref 80, .ref 105, .int l4, x5, x6], [.int v]) h2)) := (st_aload_n c285_1577 rfl).trans ((st_aload_s c285_1578 rfl).trans ((st_iload c285_1579 rfl).trans ((st_iconst (v := K 1) c285_1581 rfl).trans ((st_iadd c285_1582).trans ((st_sald c285_1583).trans (ck_cc (st_vi c285_1584 m285_170 rfl ((OLc hL).trans mo113) rfl rfl)))))))
theorem E285_1587 {sc : SC} {m : Mem} {k : Kst} {l4 s0 : Int32} {x5 x6 : Value} (hL : OL k 0) (hM : OM k 80) (ho : shp k 105 = (4, 1)) : run (some sc) (285, 1587, [.retAddr 1, .ref 0, .ref 80, .ref 105, .int l4, x5, x6], [.int s0]) (m, k) = ck (inb (l4 + (K 1)) sc.1) (cI (run none (ent 273 [.ref 80, .int (sc.2 (tn (l4 + (K 1))))]) (m, k)) (fun v h2 => run (some sc) (285, 1597, [.retAddr 1, .ref 0, .ref 80, .ref 105, .int l4, x5, x6], [.int v, .int s0]) h2)) := (st_aload_n c285_1587 rfl).trans ((st_aload_s c285_1588 rfl).trans ((st_iload c285_1589 rfl).trans ((st_iconst (v := K 1) c285_1591 rfl).trans ((st_iadd c285_1592).trans ((st_sald c285_1593).trans (ck_cc (st_vi c285_1594 m285_173 rfl ((OMc hM).trans mo273) rfl rfl)))))))
theorem E285_1597 {sc : SC} {m : Mem} {k : Kst} {l4 s1 s0 : Int32} {x5 x6 : Value} (hL : OL k 0) (hM : OM k 80) (ho : shp k 105 = (4, 1)) : run (some sc) (285, 1597, [.retAddr 1, .ref 0, .ref 80, .ref 105, .int l4, x5, x6], [.int s1, .int s0]) (m, k) = if s0 = s1 then run (some sc) (285, 2317, [.retAddr 1, .ref 0, .ref 80, .ref 105, .int l4, x5, x6], []) (m, k) else some ((0, K 0), (m, k)) := (st_icmp_eq (t := 2317) c285_1597 rfl).trans (ite_cc (rfl) ((st_iconst (v := K 0) c285_1600 rfl).trans (st_zret c285_1601 mr285 rfl)))
theorem E285_1602 {sc : SC} {m : Mem} {k : Kst} {l4 : Int32} {x5 x6 : Value} (hL : OL k 0) (hM : OM k 80) (ho : shp k 105 = (4, 1)) : run (some sc) (285, 1602, [.retAddr 1, .ref 0, .ref 80, .ref 105, .int l4, x5, x6], []) (m, k) = ck (inb (l4 + (K 1)) sc.1) (cI (run none (ent 107 [.ref 0, .int (sc.2 (tn (l4 + (K 1))))]) (m, k)) (fun v h2 => run (some sc) (285, 1612, [.retAddr 1, .ref 0, .ref 80, .ref 105, .int l4, x5, x6], [.int v]) h2)) := (st_aload_n c285_1602 rfl).trans ((st_aload_s c285_1603 rfl).trans ((st_iload c285_1604 rfl).trans ((st_iconst (v := K 1) c285_1606 rfl).trans ((st_iadd c285_1607).trans ((st_sald c285_1608).trans (ck_cc (st_vi c285_1609 m285_174 rfl ((OLc hL).trans mo107) rfl rfl)))))))
theorem E285_1612 {sc : SC} {m : Mem} {k : Kst} {l4 s0 : Int32} {x5 x6 : Value} (hL : OL k 0) (hM : OM k 80) (ho : shp k 105 = (4, 1)) : run (some sc) (285, 1612, [.retAddr 1, .ref 0, .ref 80, .ref 105, .int l4, x5, x6], [.int s0]) (m, k) = ck (inb (l4 + (K 1)) sc.1) (cI (run none (ent 274 [.ref 80, .int (sc.2 (tn (l4 + (K 1))))]) (m, k)) (fun v h2 => run (some sc) (285, 1622, [.retAddr 1, .ref 0, .ref 80, .ref 105, .int l4, x5, x6], [.int v, .int s0]) h2)) := (st_aload_n c285_1612 rfl).trans ((st_aload_s c285_1613 rfl).trans ((st_iload c285_1614 rfl).trans ((st_iconst (v := K 1) c285_1616 rfl).trans ((st_iadd c285_1617).trans ((st_sald c285_1618).trans (ck_cc (st_vi c285_1619 m285_177 rfl ((OMc hM).trans mo274) rfl rfl)))))))
theorem E285_1622 {sc : SC} {m : Mem} {k : Kst} {l4 s1 s0 : Int32} {x5 x6 : Value} (hL : OL k 0) (hM : OM k 80) (ho : shp k 105 = (4, 1)) : run (some sc) (285, 1622, [.retAddr 1, .ref 0, .ref 80, .ref 105, .int l4, x5, x6], [.int s1, .int s0]) (m, k) = if s0 = s1 then run (some sc) (285, 2317, [.retAddr 1, .ref 0, .ref 80, .ref 105, .int l4, x5, x6], []) (m, k) else some ((0, K 0), (m, k)) := (st_icmp_eq (t := 2317) c285_1622 rfl).trans (ite_cc (rfl) ((st_iconst (v := K 0) c285_1625 rfl).trans (st_zret c285_1626 mr285 rfl)))
theorem E285_1627 {sc : SC} {m : Mem} {k : Kst} {l4 : Int32} {x5 x6 : Value} (hL : OL k 0) (hM : OM k 80) (ho : shp k 105 = (4, 1)) : run (some sc) (285, 1627, [.retAddr 1, .ref 0, .ref 80, .ref 105, .int l4, x5, x6], []) (m, k) = ck (inb (l4 + (K 1)) sc.1) (cI (run none (ent 116 [.ref 0, .int (sc.2 (tn (l4 + (K 1))))]) (m, k)) (fun v h2 => run (some sc) (285, 1637, [.retAddr 1, .ref 0, .ref 80, .ref 105, .int l4, x5, x6], [.int v]) h2)) := (st_aload_n c285_1627 rfl).trans ((st_aload_s c285_1628 rfl).trans ((st_iload c285_1629 rfl).trans ((st_iconst (v := K 1) c285_1631 rfl).trans ((st_iadd c285_1632).trans ((st_sald c285_1633).trans (ck_cc (st_vi c285_1634 m285_178 rfl ((OLc hL).trans mo116) rfl rfl)))))))
theorem E285_1637 {sc : SC} {m : Mem} {k : Kst} {l4 s0 : Int32} {x5 x6 : Value} (hL : OL k 0) (hM : OM k 80) (ho : shp k 105 = (4, 1)) : run (some sc) (285, 1637, [.retAddr 1, .ref 0, .ref 80, .ref 105, .int l4, x5, x6], [.int s0]) (m, k) = ck (inb (l4 + (K 1)) sc.1) (cI (run none (ent 275 [.ref 80, .int (sc.2 (tn (l4 + (K 1))))]) (m, k)) (fun v h2 => run (some sc) (285, 1647, [.retAddr 1, .ref 0, .ref 80, .ref 105, .int l4, x5, x6], [.int v, .int s0]) h2)) := (st_aload_n c285_1637 rfl).trans ((st_aload_s c285_1638 rfl).trans ((st_iload c285_1639 rfl).trans ((st_iconst (v := K 1) c285_1641 rfl).trans ((st_iadd c285_1642).trans ((st_sald c285_1643).trans (ck_cc (st_vi c285_1644 m285_181 rfl ((OMc hM).trans mo275) rfl rfl)))))))
theorem E285_1647 {sc : SC} {m : Mem} {k : Kst} {l4 s1 s0 : Int32} {x5 x6 : Value} (hL : OL k 0) (hM : OM k 80) (ho : shp k 105 = (4, 1)) : run (some sc) (285, 1647, [.retAddr 1, .ref 0, .ref 80, .ref 105, .int l4, x5, x6], [.int s1, .int s0]) (m, k) = if s0 = s1 then run (some sc) (285, 2317, [.retAddr 1, .ref 0, .ref 80, .ref 105, .int l4, x5, x6], []) (m, k) else some ((0, K 0), (m, k)) := (st_icmp_eq (t := 2317) c285_1647 rfl).trans (ite_cc (rfl) ((st_iconst (v := K 0) c285_1650 rfl).trans (st_zret c285_1651 mr285 rfl)))
theorem E285_1652 {sc : SC} {m : Mem} {k : Kst} {l4 : Int32} {x5 x6 : Value} (hL : OL k 0) (hM : OM k 80) (ho : shp k 105 = (4, 1)) : run (some sc) (285, 1652, [.retAddr 1, .ref 0, .ref 80, .ref 105, .int l4, x5, x6], []) (m, k) = ck (inb (l4 + (K 1)) sc.1) (ck (inb (l4 + (K 2)) sc.1) (ck (inb (l4 + (K 3)) sc.1) (ck (inb (l4 + (K 4)) sc.1) (ck (inb (l4 + (K 5)) sc.1) (cI (run none (ent 121 [.ref 0, .int (sc.2 (tn (l4 + (K 1)))), .int (sc.2 (tn (l4 + (K 2)))), .int (sc.2 (tn (l4 + (K 3)))), .int (sc.2 (tn (l4 + (K 4)))), .int (sc.2 (tn (l4 + (K 5))))]) (m, k)) (fun v h2 => run (some sc) (285, 1686, [.retAddr 1, .ref 0, .ref 80, .ref 105, .int l4, x5, x6], [.int v]) h2)))))) := (st_aload_n c285_1652 rfl).trans ((st_aload_s c285_1653 rfl).trans ((st_iload c285_1654 rfl).trans ((st_iconst (v := K 1) c285_1656 rfl).trans ((st_iadd c285_1657).trans ((st_sald c285_1658).trans (ck_cc ((st_aload_s c285_1659 rfl).trans ((st_iload c285_1660 rfl).trans ((st_iconst (v := K 2) c285_1662 rfl).trans ((st_iadd c285_1663).trans ((st_sald c285_1664).trans (ck_cc ((st_aload_s c285_1665 rfl).trans ((st_iload c285_1666 rfl).trans ((st_iconst (v := K 3) c285_1668 rfl).trans ((st_iadd c285_1669).trans ((st_sald c285_1670).trans (ck_cc ((st_aload_s c285_1671 rfl).trans ((st_iload c285_1672 rfl).trans ((st_iconst (v := K 4) c285_1674 rfl).trans ((st_iadd c285_1675).trans ((st_sald c285_1676).trans (ck_cc ((st_aload_s c285_1677 rfl).trans ((st_iload c285_1678 rfl).trans ((st_iconst (v := K 5) c285_1680 rfl).trans ((st_iadd c285_1681).trans ((st_sald c285_1682).trans (ck_cc (st_vi c285_1683 m285_182 rfl ((OLc hL).trans mo121) rfl rfl)))))))))))))))))))))))))))))))
theorem E285_1686 {sc : SC} {m : Mem} {k : Kst} {l4 s0 : Int32} {x5 x6 : Value} (hL : OL k 0) (hM : OM k 80) (ho : shp k 105 = (4, 1)) : run (some sc) (285, 1686, [.retAddr 1, .ref 0, .ref 80, .ref 105, .int l4, x5, x6], [.int s0]) (m, k) = ck (inb (l4 + (K 1)) sc.1) (ck (inb (l4 + (K 2)) sc.1) (ck (inb (l4 + (K 3)) sc.1) (ck (inb (l4 + (K 4)) sc.1) (ck (inb (l4 + (K 5)) sc.1) (cI (run none (ent 208 [.ref 80, .int (sc.2 (tn (l4 + (K 1)))), .int (sc.2 (tn (l4 + (K 2)))), .int (sc.2 (tn (l4 + (K 3)))), .int (sc.2 (tn (l4 + (K 4)))), .int (sc.2 (tn (l4 + (K 5))))]) (m, k)) (fun v h2 => run (some sc) (285, 1720, [.retAddr 1, .ref 0, .ref 80, .ref 105, .int l4, x5, x6], [.int v, .int s0]) h2)))))) := (st_aload_n c285_1686 rfl).trans ((st_aload_s c285_1687 rfl).trans ((st_iload c285_1688 rfl).trans ((st_iconst (v := K 1) c285_1690 rfl).trans ((st_iadd c285_1691).trans ((st_sald c285_1692).trans (ck_cc ((st_aload_s c285_1693 rfl).trans ((st_iload c285_1694 rfl).trans ((st_iconst (v := K 2) c285_1696 rfl).trans ((st_iadd c285_1697).trans ((st_sald c285_1698).trans (ck_cc ((st_aload_s c285_1699 rfl).trans ((st_iload c285_1700 rfl).trans ((st_iconst (v := K 3) c285_1702 rfl).trans ((st_iadd c285_1703).trans ((st_sald c285_1704).trans (ck_cc ((st_aload_s c285_1705 rfl).trans ((st_iload c285_1706 rfl).trans ((st_iconst (v := K 4) c285_1708 rfl).trans ((st_iadd c285_1709).trans ((st_sald c285_1710).trans (ck_cc ((st_aload_s c285_1711 rfl).trans ((st_iload c285_1712 rfl).trans ((st_iconst (v := K 5) c285_1714 rfl).trans ((st_iadd c285_1715).trans ((st_sald c285_1716).trans (ck_cc (st_vi c285_1717 m285_185 rfl ((OMc hM).trans mo208) rfl rfl)))))))))))))))))))))))))))))))
theorem E285_1720 {sc : SC} {m : Mem} {k : Kst} {l4 s1 s0 : Int32} {x5 x6 : Value} (hL : OL k 0) (hM : OM k 80) (ho : shp k 105 = (4, 1)) : run (some sc) (285, 1720, [.retAddr 1, .ref 0, .ref 80, .ref 105, .int l4, x5, x6], [.int s1, .int s0]) (m, k) = if s0 = s1 then run (some sc) (285, 2317, [.retAddr 1, .ref 0, .ref 80, .ref 105, .int l4, x5, x6], []) (m, k) else some ((0, K 0), (m, k)) := (st_icmp_eq (t := 2317) c285_1720 rfl).trans (ite_cc (rfl) ((st_iconst (v := K 0) c285_1723 rfl).trans (st_zret c285_1724 mr285 rfl)))
theorem E285_1725 {sc : SC} {m : Mem} {k : Kst} {l4 : Int32} {x5 x6 : Value} (hL : OL k 0) (hM : OM k 80) (ho : shp k 105 = (4, 1)) : run (some sc) (285, 1725, [.retAddr 1, .ref 0, .ref 80, .ref 105, .int l4, x5, x6], []) (m, k) = ck (inb (l4 + (K 1)) sc.1) (ck (inb (l4 + (K 2)) sc.1) (ck (inb (l4 + (K 3)) sc.1) (cI (run none (ent 122 [.ref 0, .int (sc.2 (tn (l4 + (K 1)))), .int (sc.2 (tn (l4 + (K 2)))), .int (sc.2 (tn (l4 + (K 3))))]) (m, k)) (fun v h2 => run (some sc) (285, 1747, [.retAddr 1, .ref 0, .ref 80, .ref 105, .int l4, x5, x6], [.int v]) h2)))) := (st_aload_n c285_1725 rfl).trans ((st_aload_s c285_1726 rfl).trans ((st_iload c285_1727 rfl).trans ((st_iconst (v := K 1) c285_1729 rfl).trans ((st_iadd c285_1730).trans ((st_sald c285_1731).trans (ck_cc ((st_aload_s c285_1732 rfl).trans ((st_iload c285_1733 rfl).trans ((st_iconst (v := K 2) c285_1735 rfl).trans ((st_iadd c285_1736).trans ((st_sald c285_1737).trans (ck_cc ((st_aload_s c285_1738 rfl).trans ((st_iload c285_1739 rfl).trans ((st_iconst (v := K 3) c285_1741 rfl).trans ((st_iadd c285_1742).trans ((st_sald c285_1743).trans (ck_cc (st_vi c285_1744 m285_186 rfl ((OLc hL).trans mo122) rfl rfl)))))))))))))))))))
theorem E285_1747 {sc : SC} {m : Mem} {k : Kst} {l4 s0 : Int32} {x5 x6 : Value} (hL : OL k 0) (hM : OM k 80) (ho : shp k 105 = (4, 1)) : run (some sc) (285, 1747, [.retAddr 1, .ref 0, .ref 80, .ref 105, .int l4, x5, x6], [.int s0]) (m, k) = ck (inb (l4 + (K 1)) sc.1) (ck (inb (l4 + (K 2)) sc.1) (ck (inb (l4 + (K 3)) sc.1) (cI (run none (ent 211 [.ref 80, .int (sc.2 (tn (l4 + (K 1)))), .int (sc.2 (tn (l4 + (K 2)))), .int (sc.2 (tn (l4 + (K 3))))]) (m, k)) (fun v h2 => run (some sc) (285, 1769, [.retAddr 1, .ref 0, .ref 80, .ref 105, .int l4, x5, x6], [.int v, .int s0]) h2)))) := (st_aload_n c285_1747 rfl).trans ((st_aload_s c285_1748 rfl).trans ((st_iload c285_1749 rfl).trans ((st_iconst (v := K 1) c285_1751 rfl).trans ((st_iadd c285_1752).trans ((st_sald c285_1753).trans (ck_cc ((st_aload_s c285_1754 rfl).trans ((st_iload c285_1755 rfl).trans ((st_iconst (v := K 2) c285_1757 rfl).trans ((st_iadd c285_1758).trans ((st_sald c285_1759).trans (ck_cc ((st_aload_s c285_1760 rfl).trans ((st_iload c285_1761 rfl).trans ((st_iconst (v := K 3) c285_1763 rfl).trans ((st_iadd c285_1764).trans ((st_sald c285_1765).trans (ck_cc (st_vi c285_1766 m285_189 rfl ((OMc hM).trans mo211) rfl rfl)))))))))))))))))))
theorem E285_1769 {sc : SC} {m : Mem} {k : Kst} {l4 s1 s0 : Int32} {x5 x6 : Value} (hL : OL k 0) (hM : OM k 80) (ho : shp k 105 = (4, 1)) : run (some sc) (285, 1769, [.retAddr 1, .ref 0, .ref 80, .ref 105, .int l4, x5, x6], [.int s1, .int s0]) (m, k) = if s0 = s1 then run (some sc) (285, 2317, [.retAddr 1, .ref 0, .ref 80, .ref 105, .int l4, x5, x6], []) (m, k) else some ((0, K 0), (m, k)) := (st_icmp_eq (t := 2317) c285_1769 rfl).trans (ite_cc (rfl) ((st_iconst (v := K 0) c285_1772 rfl).trans (st_zret c285_1773 mr285 rfl)))
theorem E285_1774 {sc : SC} {m : Mem} {k : Kst} {l4 : Int32} {x5 x6 : Value} (hL : OL k 0) (hM : OM k 80) (ho : shp k 105 = (4, 1)) : run (some sc) (285, 1774, [.retAddr 1, .ref 0, .ref 80, .ref 105, .int l4, x5, x6], []) (m, k) = ck (inb (l4 + (K 1)) sc.1) (cI (run none (ent 124 [.ref 0, .int (sc.2 (tn (l4 + (K 1))))]) (m, k)) (fun v h2 => run (some sc) (285, 1784, [.retAddr 1, .ref 0, .ref 80, .ref 105, .int l4, x5, x6], [.int v]) h2)) := (st_aload_n c285_1774 rfl).trans ((st_aload_s c285_1775 rfl).trans ((st_iload c285_1776 rfl).trans ((st_iconst (v := K 1) c285_1778 rfl).trans ((st_iadd c285_1779).trans ((st_sald c285_1780).trans (ck_cc (st_vi c285_1781 m285_190 rfl ((OLc hL).trans mo124) rfl rfl)))))))
theorem E285_1784 {sc : SC} {m : Mem} {k : Kst} {l4 s0 : Int32} {x5 x6 : Value} (hL : OL k 0) (hM : OM k 80) (ho : shp k 105 = (4, 1)) : run (some sc) (285, 1784, [.retAddr 1, .ref 0, .ref 80, .ref 105, .int l4, x5, x6], [.int s0]) (m, k) = ck (inb (l4 + (K 1)) sc.1) (cI (run none (ent 212 [.ref 80, .int (sc.2 (tn (l4 + (K 1))))]) (m, k)) (fun v h2 => run (some sc) (285, 1794, [.retAddr 1, .ref 0, .ref 80, .ref 105, .int l4, x5, x6], [.int v, .int s0]) h2)) := (st_aload_n c285_1784 rfl).trans ((st_aload_s c285_1785 rfl).trans ((st_iload c285_1786 rfl).trans ((st_iconst (v := K 1) c285_1788 rfl).trans ((st_iadd c285_1789).trans ((st_sald c285_1790).trans (ck_cc (st_vi c285_1791 m285_193 rfl ((OMc hM).trans mo212) rfl rfl)))))))
theorem E285_1794 {sc : SC} {m : Mem} {k : Kst} {l4 s1 s0 : Int32} {x5 x6 : Value} (hL : OL k 0) (hM : OM k 80) (ho : shp k 105 = (4, 1)) : run (some sc) (285, 1794, [.retAddr 1, .ref 0, .ref 80, .ref 105, .int l4, x5, x6], [.int s1, .int s0]) (m, k) = if s0 = s1 then run (some sc) (285, 2317, [.retAddr 1, .ref 0, .ref 80, .ref 105, .int l4, x5, x6], []) (m, k) else some ((0, K 0), (m, k)) := (st_icmp_eq (t := 2317) c285_1794 rfl).trans (ite_cc (rfl) ((st_iconst (v := K 0) c285_1797 rfl).trans (st_zret c285_1798 mr285 rfl)))
theorem E285_1799 {sc : SC} {m : Mem} {k : Kst} {l4 : Int32} {x5 x6 : Value} (hL : OL k 0) (hM : OM k 80) (ho : shp k 105 = (4, 1)) : run (some sc) (285, 1799, [.retAddr 1, .ref 0, .ref 80, .ref 105, .int l4, x5, x6], []) (m, k) = ck (inb (l4 + (K 1)) sc.1) (ck (inb (l4 + (K 2)) sc.1) (ck (inb (l4 + (K 3)) sc.1) (ck (inb (l4 + (K 4)) sc.1) (cI (run none (ent 134 [.ref 0, .int (sc.2 (tn (l4 + (K 1)))), .int (sc.2 (tn (l4 + (K 2)))), .int (sc.2 (tn (l4 + (K 3)))), .int (sc.2 (tn (l4 + (K 4))))]) (m, k)) (fun v h2 => run (some sc) (285, 1827, [.retAddr 1, .ref 0, .ref 80, .ref 105, .int l4, x5, x6], [.int v]) h2))))) := (st_aload_n c285_1799 rfl).trans ((st_aload_s c285_1800 rfl).trans ((st_iload c285_1801 rfl).trans ((st_iconst (v := K 1) c285_1803 rfl).trans ((st_iadd c285_1804).trans ((st_sald c285_1805).trans (ck_cc ((st_aload_s c285_1806 rfl).trans ((st_iload c285_1807 rfl).trans ((st_iconst (v := K 2) c285_1809 rfl).trans ((st_iadd c285_1810).trans ((st_sald c285_1811).trans (ck_cc ((st_aload_s c285_1812 rfl).trans ((st_iload c285_1813 rfl).trans ((st_iconst (v := K 3) c285_1815 rfl).trans ((st_iadd c285_1816).trans ((st_sald c285_1817).trans (ck_cc ((st_aload_s c285_1818 rfl).trans ((st_iload c285_1819 rfl).trans ((st_iconst (v := K 4) c285_1821 rfl).trans ((st_iadd c285_1822).trans ((st_sald c285_1823).trans (ck_cc (st_vi c285_1824 m285_194 rfl ((OLc hL).trans mo134) rfl rfl)))))))))))))))))))))))))
theorem E285_1827 {sc : SC} {m : Mem} {k : Kst} {l4 s0 : Int32} {x5 x6 : Value} (hL : OL k 0) (hM : OM k 80) (ho : shp k 105 = (4, 1)) : run (some sc) (285, 1827, [.retAddr 1, .ref 0, .ref 80, .ref 105, .int l4, x5, x6], [.int s0]) (m, k) = ck (inb (l4 + (K 1)) sc.1) (ck (inb (l4 + (K 2)) sc.1) (ck (inb (l4 + (K 3)) sc.1) (ck (inb (l4 + (K 4)) sc.1) (cI (run none (ent 253 [.ref 80, .int (sc.2 (tn (l4 + (K 1)))), .int (sc.2 (tn (l4 + (K 2)))), .int (sc.2 (tn (l4 + (K 3)))), .int (sc.2 (tn (l4 + (K 4))))]) (m, k)) (fun v h2 => run (some sc) (285, 1855, [.retAddr 1, .ref 0, .ref 80, .ref 105, .int l4, x5, x6], [.int v, .int s0]) h2))))) := (st_aload_n c285_1827 rfl).trans ((st_aload_s c285_1828 rfl).trans ((st_iload c285_1829 rfl).trans ((st_iconst (v := K 1) c285_1831 rfl).trans ((st_iadd c285_1832).trans ((st_sald c285_1833).trans (ck_cc ((st_aload_s c285_1834 rfl).trans ((st_iload c285_1835 rfl).trans ((st_iconst (v := K 2) c285_1837 rfl).trans ((st_iadd c285_1838).trans ((st_sald c285_1839).trans (ck_cc ((st_aload_s c285_1840 rfl).trans ((st_iload c285_1841 rfl).trans ((st_iconst (v := K 3) c285_1843 rfl).trans ((st_iadd c285_1844).trans ((st_sald c285_1845).trans (ck_cc ((st_aload_s c285_1846 rfl).trans ((st_iload c285_1847 rfl).trans ((st_iconst (v := K 4) c285_1849 rfl).trans ((st_iadd c285_1850).trans ((st_sald c285_1851).trans (ck_cc (st_vi c285_1852 m285_197 rfl ((OMc hM).trans mo253) rfl rfl)))))))))))))))))))))))))
theorem E285_1855 {sc : SC} {m : Mem} {k : Kst} {l4 s1 s0 : Int32} {x5 x6 : Value} (hL : OL k 0) (hM : OM k 80) (ho : shp k 105 = (4, 1)) : run (some sc) (285, 1855, [.retAddr 1, .ref 0, .ref 80, .ref 105, .int l4, x5, x6], [.int s1, .int s0]) (m, k) = if s0 = s1 then run (some sc) (285, 2317, [.retAddr 1, .ref 0, .ref 80, .ref 105, .int l4, x5, x6], []) (m, k) else some ((0, K 0), (m, k)) := (st_icmp_eq (t := 2317) c285_1855 rfl).trans (ite_cc (rfl) ((st_iconst (v := K 0) c285_1858 rfl).trans (st_zret c285_1859 mr285 rfl)))
theorem E285_1860 {sc : SC} {m : Mem} {k : Kst} {l4 : Int32} {x5 x6 : Value} (hL : OL k 0) (hM : OM k 80) (ho : shp k 105 = (4, 1)) : run (some sc) (285, 1860, [.retAddr 1, .ref 0, .ref 80, .ref 105, .int l4, x5, x6], []) (m, k) = ck (inb (l4 + (K 1)) sc.1) (ck (inb (l4 + (K 2)) sc.1) (ck (inb (l4 + (K 3)) sc.1) (cI (run none (ent 137 [.ref 0, .int (sc.2 (tn (l4 + (K 1)))), .int (sc.2 (tn (l4 + (K 2)))), .int (sc.2 (tn (l4 + (K 3))))]) (m, k)) (fun v h2 => run (some sc) (285, 1882, [.retAddr 1, .ref 0, .ref 80, .ref 105, .int l4, x5, x6], [.int v]) h2)))) := (st_aload_n c285_1860 rfl).trans ((st_aload_s c285_1861 rfl).trans ((st_iload c285_1862 rfl).trans ((st_iconst (v := K 1) c285_1864 rfl).trans ((st_iadd c285_1865).trans ((st_sald c285_1866).trans (ck_cc ((st_aload_s c285_1867 rfl).trans ((st_iload c285_1868 rfl).trans ((st_iconst (v := K 2) c285_1870 rfl).trans ((st_iadd c285_1871).trans ((st_sald c285_1872).trans (ck_cc ((st_aload_s c285_1873 rfl).trans ((st_iload c285_1874 rfl).trans ((st_iconst (v := K 3) c285_1876 rfl).trans ((st_iadd c285_1877).trans ((st_sald c285_1878).trans (ck_cc (st_vi c285_1879 m285_198 rfl ((OLc hL).trans mo137) rfl rfl)))))))))))))))))))
theorem E285_1882 {sc : SC} {m : Mem} {k : Kst} {l4 s0 : Int32} {x5 x6 : Value} (hL : OL k 0) (hM : OM k 80) (ho : shp k 105 = (4, 1)) : run (some sc) (285, 1882, [.retAddr 1, .ref 0, .ref 80, .ref 105, .int l4, x5, x6], [.int s0]) (m, k) = ck (inb (l4 + (K 1)) sc.1) (ck (inb (l4 + (K 2)) sc.1) (ck (inb (l4 + (K 3)) sc.1) (cI (run none (ent 254 [.ref 80, .int (sc.2 (tn (l4 + (K 1)))), .int (sc.2 (tn (l4 + (K 2)))), .int (sc.2 (tn (l4 + (K 3))))]) (m, k)) (fun v h2 => run (some sc) (285, 1904, [.retAddr 1, .ref 0, .ref 80, .ref 105, .int l4, x5, x6], [.int v, .int s0]) h2)))) := (st_aload_n c285_1882 rfl).trans ((st_aload_s c285_1883 rfl).trans ((st_iload c285_1884 rfl).trans ((st_iconst (v := K 1) c285_1886 rfl).trans ((st_iadd c285_1887).trans ((st_sald c285_1888).trans (ck_cc ((st_aload_s c285_1889 rfl).trans ((st_iload c285_1890 rfl).trans ((st_iconst (v := K 2) c285_1892 rfl).trans ((st_iadd c285_1893).trans ((st_sald c285_1894).trans (ck_cc ((st_aload_s c285_1895 rfl).trans ((st_iload c285_1896 rfl).trans ((st_iconst (v := K 3) c285_1898 rfl).trans ((st_iadd c285_1899).trans ((st_sald c285_1900).trans (ck_cc (st_vi c285_1901 m285_201 rfl ((OMc hM).trans mo254) rfl rfl)))))))))))))))))))
theorem E285_1904 {sc : SC} {m : Mem} {k : Kst} {l4 s1 s0 : Int32} {x5 x6 : Value} (hL : OL k 0) (hM : OM k 80) (ho : shp k 105 = (4, 1)) : run (some sc) (285, 1904, [.retAddr 1, .ref 0, .ref 80, .ref 105, .int l4, x5, x6], [.int s1, .int s0]) (m, k) = if s0 = s1 then run (some sc) (285, 2317, [.retAddr 1, .ref 0, .ref 80, .ref 105, .int l4, x5, x6], []) (m, k) else some ((0, K 0), (m, k)) := (st_icmp_eq (t := 2317) c285_1904 rfl).trans (ite_cc (rfl) ((st_iconst (v := K 0) c285_1907 rfl).trans (st_zret c285_1908 mr285 rfl)))
theorem E285_1909 {sc : SC} {m : Mem} {k : Kst} {l4 : Int32} {x5 x6 : Value} (hL : OL k 0) (hM : OM k 80) (ho : shp k 105 = (4, 1)) : run (some sc) (285, 1909, [.retAddr 1, .ref 0, .ref 80, .ref 105, .int l4, x5, x6], []) (m, k) = ck (inb (l4 + (K 1)) sc.1) (cI (run none (ent 140 [.ref 0, .int (sc.2 (tn (l4 + (K 1))))]) (m, k)) (fun v h2 => run (some sc) (285, 1919, [.retAddr 1, .ref 0, .ref 80, .ref 105, .int l4, x5, x6], [.int v]) h2)) := (st_aload_n c285_1909 rfl).trans ((st_aload_s c285_1910 rfl).trans ((st_iload c285_1911 rfl).trans ((st_iconst (v := K 1) c285_1913 rfl).trans ((st_iadd c285_1914).trans ((st_sald c285_1915).trans (ck_cc (st_vi c285_1916 m285_202 rfl ((OLc hL).trans mo140) rfl rfl)))))))
theorem E285_1919 {sc : SC} {m : Mem} {k : Kst} {l4 s0 : Int32} {x5 x6 : Value} (hL : OL k 0) (hM : OM k 80) (ho : shp k 105 = (4, 1)) : run (some sc) (285, 1919, [.retAddr 1, .ref 0, .ref 80, .ref 105, .int l4, x5, x6], [.int s0]) (m, k) = ck (inb (l4 + (K 1)) sc.1) (cI (run none (ent 258 [.ref 80, .int (sc.2 (tn (l4 + (K 1))))]) (m, k)) (fun v h2 => run (some sc) (285, 1929, [.retAddr 1, .ref 0, .ref 80, .ref 105, .int l4, x5, x6], [.int v, .int s0]) h2)) := (st_aload_n c285_1919 rfl).trans ((st_aload_s c285_1920 rfl).trans ((st_iload c285_1921 rfl).trans ((st_iconst (v := K 1) c285_1923 rfl).trans ((st_iadd c285_1924).trans ((st_sald c285_1925).trans (ck_cc (st_vi c285_1926 m285_205 rfl ((OMc hM).trans mo258) rfl rfl)))))))
theorem E285_1929 {sc : SC} {m : Mem} {k : Kst} {l4 s1 s0 : Int32} {x5 x6 : Value} (hL : OL k 0) (hM : OM k 80) (ho : shp k 105 = (4, 1)) : run (some sc) (285, 1929, [.retAddr 1, .ref 0, .ref 80, .ref 105, .int l4, x5, x6], [.int s1, .int s0]) (m, k) = if s0 = s1 then run (some sc) (285, 2317, [.retAddr 1, .ref 0, .ref 80, .ref 105, .int l4, x5, x6], []) (m, k) else some ((0, K 0), (m, k)) := (st_icmp_eq (t := 2317) c285_1929 rfl).trans (ite_cc (rfl) ((st_iconst (v := K 0) c285_1932 rfl).trans (st_zret c285_1933 mr285 rfl)))
theorem E285_1934 {sc : SC} {m : Mem} {k : Kst} {l4 : Int32} {x5 x6 : Value} (hL : OL k 0) (hM : OM k 80) (ho : shp k 105 = (4, 1)) : run (some sc) (285, 1934, [.retAddr 1, .ref 0, .ref 80, .ref 105, .int l4, x5, x6], []) (m, k) = ck (inb (l4 + (K 1)) sc.1) (cI (run none (ent 114 [.ref 0, .int (sc.2 (tn (l4 + (K 1))))]) (m, k)) (fun v h2 => run (some sc) (285, 1944, [.retAddr 1, .ref 0, .ref 80, .ref 105, .int l4, x5, x6], [.int v]) h2)) := (st_aload_n c285_1934 rfl).trans ((st_aload_s c285_1935 rfl).trans ((st_iload c285_1936 rfl).trans ((st_iconst (v := K 1) c285_1938 rfl).trans ((st_iadd c285_1939).trans ((st_sald c285_1940).trans (ck_cc (st_vi c285_1941 m285_206 rfl ((OLc hL).trans mo114) rfl rfl)))))))
theorem E285_1944 {sc : SC} {m : Mem} {k : Kst} {l4 s0 : Int32} {x5 x6 : Value} (hL : OL k 0) (hM : OM k 80) (ho : shp k 105 = (4, 1)) : run (some sc) (285, 1944, [.retAddr 1, .ref 0, .ref 80, .ref 105, .int l4, x5, x6], [.int s0]) (m, k) = ck (inb (l4 + (K 1)) sc.1) (cI (run none (ent 260 [.ref 80, .int (sc.2 (tn (l4 + (K 1))))]) (m, k)) (fun v h2 => run (some sc) (285, 1954, [.retAddr 1, .ref 0, .ref 80, .ref 105, .int l4, x5, x6], [.int v, .int s0]) h2)) := (st_aload_n c285_1944 rfl).trans ((st_aload_s c285_1945 rfl).trans ((st_iload c285_1946 rfl).trans ((st_iconst (v := K 1) c285_1948 rfl).trans ((st_iadd c285_1949).trans ((st_sald c285_1950).trans (ck_cc (st_vi c285_1951 m285_209 rfl ((OMc hM).trans mo260) rfl rfl)))))))
theorem E285_1954 {sc : SC} {m : Mem} {k : Kst} {l4 s1 s0 : Int32} {x5 x6 : Value} (hL : OL k 0) (hM : OM k 80) (ho : shp k 105 = (4, 1)) : run (some sc) (285, 1954, [.retAddr 1, .ref 0, .ref 80, .ref 105, .int l4, x5, x6], [.int s1, .int s0]) (m, k) = if s0 = s1 then run (some sc) (285, 2317, [.retAddr 1, .ref 0, .ref 80, .ref 105, .int l4, x5, x6], []) (m, k) else some ((0, K 0), (m, k)) := (st_icmp_eq (t := 2317) c285_1954 rfl).trans (ite_cc (rfl) ((st_iconst (v := K 0) c285_1957 rfl).trans (st_zret c285_1958 mr285 rfl)))
theorem E285_1959 {sc : SC} {m : Mem} {k : Kst} {l4 : Int32} {x5 x6 : Value} (hL : OL k 0) (hM : OM k 80) (ho : shp k 105 = (4, 1)) : run (some sc) (285, 1959, [.retAddr 1, .ref 0, .ref 80, .ref 105, .int l4, x5, x6], []) (m, k) = cI (run none (ent 115 [.ref 0]) (m, k)) (fun v h2 => run (some sc) (285, 1963, [.retAddr 1, .ref 0, .ref 80, .ref 105, .int l4, x5, x6], [.int v]) h2) := (st_aload_n c285_1959 rfl).trans (st_vi c285_1960 m285_210 rfl ((OLc hL).trans mo115) rfl rfl)
theorem E285_1963 {sc : SC} {m : Mem} {k : Kst} {l4 s0 : Int32} {x5 x6 : Value} (hL : OL k 0) (hM : OM k 80) (ho : shp k 105 = (4, 1)) : run (some sc) (285, 1963, [.retAddr 1, .ref 0, .ref 80, .ref 105, .int l4, x5, x6], [.int s0]) (m, k) = cI (run none (ent 261 [.ref 80]) (m, k)) (fun v h2 => run (some sc) (285, 1967, [.retAddr 1, .ref 0, .ref 80, .ref 105, .int l4, x5, x6], [.int v, .int s0]) h2) := (st_aload_n c285_1963 rfl).trans (st_vi c285_1964 m285_213 rfl ((OMc hM).trans mo261) rfl rfl)
theorem E285_1967 {sc : SC} {m : Mem} {k : Kst} {l4 s1 s0 : Int32} {x5 x6 : Value} (hL : OL k 0) (hM : OM k 80) (ho : shp k 105 = (4, 1)) : run (some sc) (285, 1967, [.retAddr 1, .ref 0, .ref 80, .ref 105, .int l4, x5, x6], [.int s1, .int s0]) (m, k) = if s0 = s1 then run (some sc) (285, 2317, [.retAddr 1, .ref 0, .ref 80, .ref 105, .int l4, x5, x6], []) (m, k) else some ((0, K 0), (m, k)) := (st_icmp_eq (t := 2317) c285_1967 rfl).trans (ite_cc (rfl) ((st_iconst (v := K 0) c285_1970 rfl).trans (st_zret c285_1971 mr285 rfl)))
theorem E285_1972 {sc : SC} {m : Mem} {k : Kst} {l4 : Int32} {x5 x6 : Value} (hL : OL k 0) (hM : OM k 80) (ho : shp k 105 = (4, 1)) : run (some sc) (285, 1972, [.retAddr 1, .ref 0, .ref 80, .ref 105, .int l4, x5, x6], []) (m, k) = ck (inb (l4 + (K 1)) sc.1) (cI (run none (ent 129 [.ref 0, .int (sc.2 (tn (l4 + (K 1))))]) (m, k)) (fun v h2 => run (some sc) (285, 1982, [.retAddr 1, .ref 0, .ref 80, .ref 105, .int l4, x5, x6], [.int v]) h2)) := (st_aload_n c285_1972 rfl).trans ((st_aload_s c285_1973 rfl).trans ((st_iload c285_1974 rfl).trans ((st_iconst (v := K 1) c285_1976 rfl).trans ((st_iadd c285_1977).trans ((st_sald c285_1978).trans (ck_cc (st_vi c285_1979 m285_214 rfl ((OLc hL).trans mo129) rfl rfl)))))))
theorem E285_1982 {sc : SC} {m : Mem} {k : Kst} {l4 s0 : Int32} {x5 x6 : Value} (hL : OL k 0) (hM : OM k 80) (ho : shp k 105 = (4, 1)) : run (some sc) (285, 1982, [.retAddr 1, .ref 0, .ref 80, .ref 105, .int l4, x5, x6], [.int s0]) (m, k) = ck (inb (l4 + (K 1)) sc.1) (cI (run none (ent 266 [.ref 80, .int (sc.2 (tn (l4 + (K 1))))]) (m, k)) (fun v h2 => run (some sc) (285, 1992, [.retAddr 1, .ref 0, .ref 80, .ref 105, .int l4, x5, x6], [.int v, .int s0]) h2)) := (st_aload_n c285_1982 rfl).trans ((st_aload_s c285_1983 rfl).trans ((st_iload c285_1984 rfl).trans ((st_iconst (v := K 1) c285_1986 rfl).trans ((st_iadd c285_1987).trans ((st_sald c285_1988).trans (ck_cc (st_vi c285_1989 m285_217 rfl ((OMc hM).trans mo266) rfl rfl)))))))
theorem E285_1992 {sc : SC} {m : Mem} {k : Kst} {l4 s1 s0 : Int32} {x5 x6 : Value} (hL : OL k 0) (hM : OM k 80) (ho : shp k 105 = (4, 1)) : run (some sc) (285, 1992, [.retAddr 1, .ref 0, .ref 80, .ref 105, .int l4, x5, x6], [.int s1, .int s0]) (m, k) = if s0 = s1 then run (some sc) (285, 2317, [.retAddr 1, .ref 0, .ref 80, .ref 105, .int l4, x5, x6], []) (m, k) else some ((0, K 0), (m, k)) := (st_icmp_eq (t := 2317) c285_1992 rfl).trans (ite_cc (rfl) ((st_iconst (v := K 0) c285_1995 rfl).trans (st_zret c285_1996 mr285 rfl)))
theorem E285_1997 {sc : SC} {m : Mem} {k : Kst} {l4 : Int32} {x5 x6 : Value} (hL : OL k 0) (hM : OM k 80) (ho : shp k 105 = (4, 1)) : run (some sc) (285, 1997, [.retAddr 1, .ref 0, .ref 80, .ref 105, .int l4, x5, x6], []) (m, k) = ck (inb (l4 + (K 1)) sc.1) (ck (inb (l4 + (K 2)) sc.1) (ck (inb (l4 + (K 3)) sc.1) (cI (run none (ent 135 [.ref 0, .int (sc.2 (tn (l4 + (K 1)))), .int (sc.2 (tn (l4 + (K 2)))), .int (sc.2 (tn (l4 + (K 3))))]) (m, k)) (fun v h2 => run (some sc) (285, 2019, [.retAddr 1, .ref 0, .ref 80, .ref 105, .int l4, x5, x6], [.int v]) h2)))) := (st_aload_n c285_1997 rfl).trans ((st_aload_s c285_1998 rfl).trans ((st_iload c285_1999 rfl).trans ((st_iconst (v := K 1) c285_2001 rfl).trans ((st_iadd c285_2002).trans ((st_sald c285_2003).trans (ck_cc ((st_aload_s c285_2004 rfl).trans ((st_iload c285_2005 rfl).trans ((st_iconst (v := K 2) c285_2007 rfl).trans ((st_iadd c285_2008).trans ((st_sald c285_2009).trans (ck_cc ((st_aload_s c285_2010 rfl).trans ((st_iload c285_2011 rfl).trans ((st_iconst (v := K 3) c285_2013 rfl).trans ((st_iadd c285_2014).trans ((st_sald c285_2015).trans (ck_cc (st_vi c285_2016 m285_218 rfl ((OLc hL).trans mo135) rfl rfl)))))))))))))))))))
theorem E285_2019 {sc : SC} {m : Mem} {k : Kst} {l4 s0 : Int32} {x5 x6 : Value} (hL : OL k 0) (hM : OM k 80) (ho : shp k 105 = (4, 1)) : run (some sc) (285, 2019, [.retAddr 1, .ref 0, .ref 80, .ref 105, .int l4, x5, x6], [.int s0]) (m, k) = ck (inb (l4 + (K 1)) sc.1) (ck (inb (l4 + (K 2)) sc.1) (ck (inb (l4 + (K 3)) sc.1) (cI (run none (ent 255 [.ref 80, .int (sc.2 (tn (l4 + (K 1)))), .int (sc.2 (tn (l4 + (K 2)))), .int (sc.2 (tn (l4 + (K 3))))]) (m, k)) (fun v h2 => run (some sc) (285, 2041, [.retAddr 1, .ref 0, .ref 80, .ref 105, .int l4, x5, x6], [.int v, .int s0]) h2)))) := (st_aload_n c285_2019 rfl).trans ((st_aload_s c285_2020 rfl).trans ((st_iload c285_2021 rfl).trans ((st_iconst (v := K 1) c285_2023 rfl).trans ((st_iadd c285_2024).trans ((st_sald c285_2025).trans (ck_cc ((st_aload_s c285_2026 rfl).trans ((st_iload c285_2027 rfl).trans ((st_iconst (v := K 2) c285_2029 rfl).trans ((st_iadd c285_2030).trans ((st_sald c285_2031).trans (ck_cc ((st_aload_s c285_2032 rfl).trans ((st_iload c285_2033 rfl).trans ((st_iconst (v := K 3) c285_2035 rfl).trans ((st_iadd c285_2036).trans ((st_sald c285_2037).trans (ck_cc (st_vi c285_2038 m285_221 rfl ((OMc hM).trans mo255) rfl rfl)))))))))))))))))))
theorem E285_2041 {sc : SC} {m : Mem} {k : Kst} {l4 s1 s0 : Int32} {x5 x6 : Value} (hL : OL k 0) (hM : OM k 80) (ho : shp k 105 = (4, 1)) : run (some sc) (285, 2041, [.retAddr 1, .ref 0, .ref 80, .ref 105, .int l4, x5, x6], [.int s1, .int s0]) (m, k) = if s0 = s1 then run (some sc) (285, 2317, [.retAddr 1, .ref 0, .ref 80, .ref 105, .int l4, x5, x6], []) (m, k) else some ((0, K 0), (m, k)) := (st_icmp_eq (t := 2317) c285_2041 rfl).trans (ite_cc (rfl) ((st_iconst (v := K 0) c285_2044 rfl).trans (st_zret c285_2045 mr285 rfl)))
theorem E285_2046 {sc : SC} {m : Mem} {k : Kst} {l4 : Int32} {x5 x6 : Value} (hL : OL k 0) (hM : OM k 80) (ho : shp k 105 = (4, 1)) : run (some sc) (285, 2046, [.retAddr 1, .ref 0, .ref 80, .ref 105, .int l4, x5, x6], []) (m, k) = ck (inb (l4 + (K 1)) sc.1) (ck (inb (l4 + (K 2)) sc.1) (ck (inb (l4 + (K 3)) sc.1) (cI (run none (ent 136 [.ref 0, .int (sc.2 (tn (l4 + (K 1)))), .int (sc.2 (tn (l4 + (K 2)))), .int (sc.2 (tn (l4 + (K 3))))]) (m, k)) (fun v h2 => run (some sc) (285, 2068, [.retAddr 1, .ref 0, .ref 80, .ref 105, .int l4, x5, x6], [.int v]) h2)))) := (st_aload_n c285_2046 rfl).trans ((st_aload_s c285_2047 rfl).trans ((st_iload c285_2048 rfl).trans ((st_iconst (v := K 1) c285_2050 rfl).trans ((st_iadd c285_2051).trans ((st_sald c285_2052).trans (ck_cc ((st_aload_s c285_2053 rfl).trans ((st_iload c285_2054 rfl).trans ((st_iconst (v := K 2) c285_2056 rfl).trans ((st_iadd c285_2057).trans ((st_sald c285_2058).trans (ck_cc ((st_aload_s c285_2059 rfl).trans ((st_iload c285_2060 rfl).trans ((st_iconst (v := K 3) c285_2062 rfl).trans ((st_iadd c285_2063).trans ((st_sald c285_2064).trans (ck_cc (st_vi c285_2065 m285_222 rfl ((OLc hL).trans mo136) rfl rfl)))))))))))))))))))
theorem E285_2068 {sc : SC} {m : Mem} {k : Kst} {l4 s0 : Int32} {x5 x6 : Value} (hL : OL k 0) (hM : OM k 80) (ho : shp k 105 = (4, 1)) : run (some sc) (285, 2068, [.retAddr 1, .ref 0, .ref 80, .ref 105, .int l4, x5, x6], [.int s0]) (m, k) = ck (inb (l4 + (K 1)) sc.1) (ck (inb (l4 + (K 2)) sc.1) (ck (inb (l4 + (K 3)) sc.1) (cI (run none (ent 256 [.ref 80, .int (sc.2 (tn (l4 + (K 1)))), .int (sc.2 (tn (l4 + (K 2)))), .int (sc.2 (tn (l4 + (K 3))))]) (m, k)) (fun v h2 => run (some sc) (285, 2090, [.retAddr 1, .ref 0, .ref 80, .ref 105, .int l4, x5, x6], [.int v, .int s0]) h2)))) := (st_aload_n c285_2068 rfl).trans ((st_aload_s c285_2069 rfl).trans ((st_iload c285_2070 rfl).trans ((st_iconst (v := K 1) c285_2072 rfl).trans ((st_iadd c285_2073).trans ((st_sald c285_2074).trans (ck_cc ((st_aload_s c285_2075 rfl).trans ((st_iload c285_2076 rfl).trans ((st_iconst (v := K 2) c285_2078 rfl).trans ((st_iadd c285_2079).trans ((st_sald c285_2080).trans (ck_cc ((st_aload_s c285_2081 rfl).trans ((st_iload c285_2082 rfl).trans ((st_iconst (v := K 3) c285_2084 rfl).trans ((st_iadd c285_2085).trans ((st_sald c285_2086).trans (ck_cc (st_vi c285_2087 m285_225 rfl ((OMc hM).trans mo256) rfl rfl)))))))))))))))))))
theorem E285_2090 {sc : SC} {m : Mem} {k : Kst} {l4 s1 s0 : Int32} {x5 x6 : Value} (hL : OL k 0) (hM : OM k 80) (ho : shp k 105 = (4, 1)) : run (some sc) (285, 2090, [.retAddr 1, .ref 0, .ref 80, .ref 105, .int l4, x5, x6], [.int s1, .int s0]) (m, k) = if s0 = s1 then run (some sc) (285, 2317, [.retAddr 1, .ref 0, .ref 80, .ref 105, .int l4, x5, x6], []) (m, k) else some ((0, K 0), (m, k)) := (st_icmp_eq (t := 2317) c285_2090 rfl).trans (ite_cc (rfl) ((st_iconst (v := K 0) c285_2093 rfl).trans (st_zret c285_2094 mr285 rfl)))
theorem E285_2095 {sc : SC} {m : Mem} {k : Kst} {l4 : Int32} {x5 x6 : Value} (hL : OL k 0) (hM : OM k 80) (ho : shp k 105 = (4, 1)) : run (some sc) (285, 2095, [.retAddr 1, .ref 0, .ref 80, .ref 105, .int l4, x5, x6], []) (m, k) = ck (inb (l4 + (K 1)) sc.1) (ck (inb (l4 + (K 2)) sc.1) (cI (run none (ent 141 [.ref 0, .int (sc.2 (tn (l4 + (K 1)))), .int (sc.2 (tn (l4 + (K 2))))]) (m, k)) (fun v h2 => run (some sc) (285, 2111, [.retAddr 1, .ref 0, .ref 80, .ref 105, .int l4, x5, x6], [.int v]) h2))) := (st_aload_n c285_2095 rfl).trans ((st_aload_s c285_2096 rfl).trans ((st_iload c285_2097 rfl).trans ((st_iconst (v := K 1) c285_2099 rfl).trans ((st_iadd c285_2100).trans ((st_sald c285_2101).trans (ck_cc ((st_aload_s c285_2102 rfl).trans ((st_iload c285_2103 rfl).trans ((st_iconst (v := K 2) c285_2105 rfl).trans ((st_iadd c285_2106).trans ((st_sald c285_2107).trans (ck_cc (st_vi c285_2108 m285_226 rfl ((OLc hL).trans mo141) rfl rfl)))))))))))))
theorem E285_2111 {sc : SC} {m : Mem} {k : Kst} {l4 s0 : Int32} {x5 x6 : Value} (hL : OL k 0) (hM : OM k 80) (ho : shp k 105 = (4, 1)) : run (some sc) (285, 2111, [.retAddr 1, .ref 0, .ref 80, .ref 105, .int l4, x5, x6], [.int s0]) (m, k) = ck (inb (l4 + (K 1)) sc.1) (ck (inb (l4 + (K 2)) sc.1) (cI (run none (ent 257 [.ref 80, .int (sc.2 (tn (l4 + (K 1)))), .int (sc.2 (tn (l4 + (K 2))))]) (m, k)) (fun v h2 => run (some sc) (285, 2127, [.retAddr 1, .ref 0, .ref 80, .ref 105, .int l4, x5, x6], [.int v, .int s0]) h2))) := (st_aload_n c285_2111 rfl).trans ((st_aload_s c285_2112 rfl).trans ((st_iload c285_2113 rfl).trans ((st_iconst (v := K 1) c285_2115 rfl).trans ((st_iadd c285_2116).trans ((st_sald c285_2117).trans (ck_cc ((st_aload_s c285_2118 rfl).trans ((st_iload c285_2119 rfl).trans ((st_iconst (v := K 2) c285_2121 rfl).trans ((st_iadd c285_2122).trans ((st_sald c285_2123).trans (ck_cc (st_vi c285_2124 m285_229 rfl ((OMc hM).trans mo257) rfl rfl)))))))))))))
theorem E285_2127 {sc : SC} {m : Mem} {k : Kst} {l4 s1 s0 : Int32} {x5 x6 : Value} (hL : OL k 0) (hM : OM k 80) (ho : shp k 105 = (4, 1)) : run (some sc) (285, 2127, [.retAddr 1, .ref 0, .ref 80, .ref 105, .int l4, x5, x6], [.int s1, .int s0]) (m, k) = if s0 = s1 then run (some sc) (285, 2317, [.retAddr 1, .ref 0, .ref 80, .ref 105, .int l4, x5, x6], []) (m, k) else some ((0, K 0), (m, k)) := (st_icmp_eq (t := 2317) c285_2127 rfl).trans (ite_cc (rfl) ((st_iconst (v := K 0) c285_2130 rfl).trans (st_zret c285_2131 mr285 rfl)))
theorem E285_2132 {sc : SC} {m : Mem} {k : Kst} {l4 : Int32} {x5 x6 : Value} (hL : OL k 0) (hM : OM k 80) (ho : shp k 105 = (4, 1)) : run (some sc) (285, 2132, [.retAddr 1, .ref 0, .ref 80, .ref 105, .int l4, x5, x6], []) (m, k) = ck (inb (l4 + (K 1)) sc.1) (ck (inb (l4 + (K 2)) sc.1) (ck (inb (l4 + (K 3)) sc.1) (cI (run none (ent 125 [.ref 0, .int (sc.2 (tn (l4 + (K 1)))), .int (sc.2 (tn (l4 + (K 2)))), .int (sc.2 (tn (l4 + (K 3))))]) (m, k)) (fun v h2 => run (some sc) (285, 2154, [.retAddr 1, .ref 0, .ref 80, .ref 105, .int l4, x5, x6], [.int v]) h2)))) := (st_aload_n c285_2132 rfl).trans ((st_aload_s c285_2133 rfl).trans ((st_iload c285_2134 rfl).trans ((st_iconst (v := K 1) c285_2136 rfl).trans ((st_iadd c285_2137).trans ((st_sald c285_2138).trans (ck_cc ((st_aload_s c285_2139 rfl).trans ((st_iload c285_2140 rfl).trans ((st_iconst (v := K 2) c285_2142 rfl).trans ((st_iadd c285_2143).trans ((st_sald c285_2144).trans (ck_cc ((st_aload_s c285_2145 rfl).trans ((st_iload c285_2146 rfl).trans ((st_iconst (v := K 3) c285_2148 rfl).trans ((st_iadd c285_2149).trans ((st_sald c285_2150).trans (ck_cc (st_vi c285_2151 m285_230 rfl ((OLc hL).trans mo125) rfl rfl)))))))))))))))))))
theorem E285_2154 {sc : SC} {m : Mem} {k : Kst} {l4 s0 : Int32} {x5 x6 : Value} (hL : OL k 0) (hM : OM k 80) (ho : shp k 105 = (4, 1)) : run (some sc) (285, 2154, [.retAddr 1, .ref 0, .ref 80, .ref 105, .int l4, x5, x6], [.int s0]) (m, k) = ck (inb (l4 + (K 1)) sc.1) (ck (inb (l4 + (K 2)) sc.1) (ck (inb (l4 + (K 3)) sc.1) (cI (run none (ent 209 [.ref 80, .int (sc.2 (tn (l4 + (K 1)))), .int (sc.2 (tn (l4 + (K 2)))), .int (sc.2 (tn (l4 + (K 3))))]) (m, k)) (fun v h2 => run (some sc) (285, 2176, [.retAddr 1, .ref 0, .ref 80, .ref 105, .int l4, x5, x6], [.int v, .int s0]) h2)))) := (st_aload_n c285_2154 rfl).trans ((st_aload_s c285_2155 rfl).trans ((st_iload c285_2156 rfl).trans ((st_iconst (v := K 1) c285_2158 rfl).trans ((st_iadd c285_2159).trans ((st_sald c285_2160).trans (ck_cc ((st_aload_s c285_2161 rfl).trans ((st_iload c285_2162 rfl).trans ((st_iconst (v := K 2) c285_2164 rfl).trans ((st_iadd c285_2165).trans ((st_sald c285_2166).trans (ck_cc ((st_aload_s c285_2167 rfl).trans ((st_iload c285_2168 rfl).trans ((st_iconst (v := K 3) c285_2170 rfl).trans ((st_iadd c285_2171).trans ((st_sald c285_2172).trans (ck_cc (st_vi c285_2173 m285_233 rfl ((OMc hM).trans mo209) rfl rfl)))))))))))))))))))
theorem E285_2176 {sc : SC} {m : Mem} {k : Kst} {l4 s1 s0 : Int32} {x5 x6 : Value} (hL : OL k 0) (hM : OM k 80) (ho : shp k 105 = (4, 1)) : run (some sc) (285, 2176, [.retAddr 1, .ref 0, .ref 80, .ref 105, .int l4, x5, x6], [.int s1, .int s0]) (m, k) = if s0 = s1 then run (some sc) (285, 2317, [.retAddr 1, .ref 0, .ref 80, .ref 105, .int l4, x5, x6], []) (m, k) else some ((0, K 0), (m, k)) := (st_icmp_eq (t := 2317) c285_2176 rfl).trans (ite_cc (rfl) ((st_iconst (v := K 0) c285_2179 rfl).trans (st_zret c285_2180 mr285 rfl)))
theorem E285_2181 {sc : SC} {m : Mem} {k : Kst} {l4 : Int32} {x5 x6 : Value} (hL : OL k 0) (hM : OM k 80) (ho : shp k 105 = (4, 1)) : run (some sc) (285, 2181, [.retAddr 1, .ref 0, .ref 80, .ref 105, .int l4, x5, x6], []) (m, k) = ck (inb (l4 + (K 1)) sc.1) (ck (inb (l4 + (K 2)) sc.1) (ck (inb (l4 + (K 3)) sc.1) (cI (run none (ent 126 [.ref 0, .int (sc.2 (tn (l4 + (K 1)))), .int (sc.2 (tn (l4 + (K 2)))), .int (sc.2 (tn (l4 + (K 3))))]) (m, k)) (fun v h2 => run (some sc) (285, 2203, [.retAddr 1, .ref 0, .ref 80, .ref 105, .int l4, x5, x6], [.int v]) h2)))) := (st_aload_n c285_2181 rfl).trans ((st_aload_s c285_2182 rfl).trans ((st_iload c285_2183 rfl).trans ((st_iconst (v := K 1) c285_2185 rfl).trans ((st_iadd c285_2186).trans ((st_sald c285_2187).trans (ck_cc ((st_aload_s c285_2188 rfl).trans ((st_iload c285_2189 rfl).trans ((st_iconst (v := K 2) c285_2191 rfl).trans ((st_iadd c285_2192).trans ((st_sald c285_2193).trans (ck_cc ((st_aload_s c285_2194 rfl).trans ((st_iload c285_2195 rfl).trans ((st_iconst (v := K 3) c285_2197 rfl).trans ((st_iadd c285_2198).trans ((st_sald c285_2199).trans (ck_cc (st_vi c285_2200 m285_234 rfl ((OLc hL).trans mo126) rfl rfl)))))))))))))))))))
theorem E285_2203 {sc : SC} {m : Mem} {k : Kst} {l4 s0 : Int32} {x5 x6 : Value} (hL : OL k 0) (hM : OM k 80) (ho : shp k 105 = (4, 1)) : run (some sc) (285, 2203, [.retAddr 1, .ref 0, .ref 80, .ref 105, .int l4, x5, x6], [.int s0]) (m, k) = ck (inb (l4 + (K 1)) sc.1) (ck (inb (l4 + (K 2)) sc.1) (ck (inb (l4 + (K 3)) sc.1) (cI (run none (ent 210 [.ref 80, .int (sc.2 (tn (l4 + (K 1)))), .int (sc.2 (tn (l4 + (K 2)))), .int (sc.2 (tn (l4 + (K 3))))]) (m, k)) (fun v h2 => run (some sc) (285, 2225, [.retAddr 1, .ref 0, .ref 80, .ref 105, .int l4, x5, x6], [.int v, .int s0]) h2)))) := (st_aload_n c285_2203 rfl).trans ((st_aload_s c285_2204 rfl).trans ((st_iload c285_2205 rfl).trans ((st_iconst (v := K 1) c285_2207 rfl).trans ((st_iadd c285_2208).trans ((st_sald c285_2209).trans (ck_cc ((st_aload_s c285_2210 rfl).trans ((st_iload c285_2211 rfl).trans ((st_iconst (v := K 2) c285_2213 rfl).trans ((st_iadd c285_2214).trans ((st_sald c285_2215).trans (ck_cc ((st_aload_s c285_2216 rfl).trans ((st_iload c285_2217 rfl).trans ((st_iconst (v := K 3) c285_2219 rfl).trans ((st_iadd c285_2220).trans ((st_sald c285_2221).trans (ck_cc (st_vi c285_2222 m285_237 rfl ((OMc hM).trans mo210) rfl rfl)))))))))))))))))))
theorem E285_2225 {sc : SC} {m : Mem} {k : Kst} {l4 s1 s0 : Int32} {x5 x6 : Value} (hL : OL k 0) (hM : OM k 80) (ho : shp k 105 = (4, 1)) : run (some sc) (285, 2225, [.retAddr 1, .ref 0, .ref 80, .ref 105, .int l4, x5, x6], [.int s1, .int s0]) (m, k) = if s0 = s1 then run (some sc) (285, 2317, [.retAddr 1, .ref 0, .ref 80, .ref 105, .int l4, x5, x6], []) (m, k) else some ((0, K 0), (m, k)) := (st_icmp_eq (t := 2317) c285_2225 rfl).trans (ite_cc (rfl) ((st_iconst (v := K 0) c285_2228 rfl).trans (st_zret c285_2229 mr285 rfl)))
theorem E285_2230 {sc : SC} {m : Mem} {k : Kst} {l4 : Int32} {x5 x6 : Value} (hL : OL k 0) (hM : OM k 80) (ho : shp k 105 = (4, 1)) : run (some sc) (285, 2230, [.retAddr 1, .ref 0, .ref 80, .ref 105, .int l4, x5, x6], []) (m, k) = ck (inb (l4 + (K 1)) sc.1) (ck (inb (l4 + (K 2)) sc.1) (cI (run none (ent 109 [.ref 0, .int (sc.2 (tn (l4 + (K 1)))), .int (sc.2 (tn (l4 + (K 2))))]) (m, k)) (fun v h2 => run (some sc) (285, 2246, [.retAddr 1, .ref 0, .ref 80, .ref 105, .int l4, x5, x6], [.int v]) h2))) := (st_aload_n c285_2230 rfl).trans ((st_aload_s c285_2231 rfl).trans ((st_iload c285_2232 rfl).trans ((st_iconst (v := K 1) c285_2234 rfl).trans ((st_iadd c285_2235).trans ((st_sald c285_2236).trans (ck_cc ((st_aload_s c285_2237 rfl).trans ((st_iload c285_2238 rfl).trans ((st_iconst (v := K 2) c285_2240 rfl).trans ((st_iadd c285_2241).trans ((st_sald c285_2242).trans (ck_cc (st_vi c285_2243 m285_238 rfl ((OLc hL).trans mo109) rfl rfl)))))))))))))
theorem E285_2246 {sc : SC} {m : Mem} {k : Kst} {l4 s0 : Int32} {x5 x6 : Value} (hL : OL k 0) (hM : OM k 80) (ho : shp k 105 = (4, 1)) : run (some sc) (285, 2246, [.retAddr 1, .ref 0, .ref 80, .ref 105, .int l4, x5, x6], [.int s0]) (m, k) = ck (inb (l4 + (K 1)) sc.1) (ck (inb (l4 + (K 2)) sc.1) (cI (run none (ent 263 [.ref 80, .int (sc.2 (tn (l4 + (K 1)))), .int (sc.2 (tn (l4 + (K 2))))]) (m, k)) (fun v h2 => run (some sc) (285, 2262, [.retAddr 1, .ref 0, .ref 80, .ref 105, .int l4, x5, x6], [.int v, .int s0]) h2))) := (st_aload_n c285_2246 rfl).trans ((st_aload_s c285_2247 rfl).trans ((st_iload c285_2248 rfl).trans ((st_iconst (v := K 1) c285_2250 rfl).trans ((st_iadd c285_2251).trans ((st_sald c285_2252).trans (ck_cc ((st_aload_s c285_2253 rfl).trans ((st_iload c285_2254 rfl).trans ((st_iconst (v := K 2) c285_2256 rfl).trans ((st_iadd c285_2257).trans ((st_sald c285_2258).trans (ck_cc (st_vi c285_2259 m285_241 rfl ((OMc hM).trans mo263) rfl rfl)))))))))))))
theorem E285_2262 {sc : SC} {m : Mem} {k : Kst} {l4 s1 s0 : Int32} {x5 x6 : Value} (hL : OL k 0) (hM : OM k 80) (ho : shp k 105 = (4, 1)) : run (some sc) (285, 2262, [.retAddr 1, .ref 0, .ref 80, .ref 105, .int l4, x5, x6], [.int s1, .int s0]) (m, k) = if s0 = s1 then run (some sc) (285, 2317, [.retAddr 1, .ref 0, .ref 80, .ref 105, .int l4, x5, x6], []) (m, k) else some ((0, K 0), (m, k)) := (st_icmp_eq (t := 2317) c285_2262 rfl).trans (ite_cc (rfl) ((st_iconst (v := K 0) c285_2265 rfl).trans (st_zret c285_2266 mr285 rfl)))
theorem E285_2267 {sc : SC} {m : Mem} {k : Kst} {l4 : Int32} {x5 x6 : Value} (hL : OL k 0) (hM : OM k 80) (ho : shp k 105 = (4, 1)) : run (some sc) (285, 2267, [.retAddr 1, .ref 0, .ref 80, .ref 105, .int l4, x5, x6], []) (m, k) = ck (inb (l4 + (K 1)) sc.1) (cI (run none (ent 108 [.ref 0, .int (sc.2 (tn (l4 + (K 1))))]) (m, k)) (fun v h2 => run (some sc) (285, 2277, [.retAddr 1, .ref 0, .ref 80, .ref 105, .int l4, x5, x6], [.int v]) h2)) := (st_aload_n c285_2267 rfl).trans ((st_aload_s c285_2268 rfl).trans ((st_iload c285_2269 rfl).trans ((st_iconst (v := K 1) c285_2271 rfl).trans ((st_iadd c285_2272).trans ((st_sald c285_2273).trans (ck_cc (st_vi c285_2274 m285_242 rfl ((OLc hL).trans mo108) rfl rfl)))))))
theorem E285_2277 {sc : SC} {m : Mem} {k : Kst} {l4 s0 : Int32} {x5 x6 : Value} (hL : OL k 0) (hM : OM k 80) (ho : shp k 105 = (4, 1)) : run (some sc) (285, 2277, [.retAddr 1, .ref 0, .ref 80, .ref 105, .int l4, x5, x6], [.int s0]) (m, k) = ck (inb (l4 + (K 1)) sc.1) (cI (run none (ent 265 [.ref 80, .int (sc.2 (tn (l4 + (K 1))))]) (m, k)) (fun v h2 => run (some sc) (285, 2287, [.retAddr 1, .ref 0, .ref 80, .ref 105, .int l4, x5, x6], [.int v, .int s0]) h2)) := (st_aload_n c285_2277 rfl).trans ((st_aload_s c285_2278 rfl).trans ((st_iload c285_2279 rfl).trans ((st_iconst (v := K 1) c285_2281 rfl).trans ((st_iadd c285_2282).trans ((st_sald c285_2283).trans (ck_cc (st_vi c285_2284 m285_245 rfl ((OMc hM).trans mo265) rfl rfl)))))))
theorem E285_2287 {sc : SC} {m : Mem} {k : Kst} {l4 s1 s0 : Int32} {x5 x6 : Value} (hL : OL k 0) (hM : OM k 80) (ho : shp k 105 = (4, 1)) : run (some sc) (285, 2287, [.retAddr 1, .ref 0, .ref 80, .ref 105, .int l4, x5, x6], [.int s1, .int s0]) (m, k) = if s0 = s1 then run (some sc) (285, 2317, [.retAddr 1, .ref 0, .ref 80, .ref 105, .int l4, x5, x6], []) (m, k) else some ((0, K 0), (m, k)) := (st_icmp_eq (t := 2317) c285_2287 rfl).trans (ite_cc (rfl) ((st_iconst (v := K 0) c285_2290 rfl).trans (st_zret c285_2291 mr285 rfl)))
theorem E285_2292 {sc : SC} {m : Mem} {k : Kst} {l4 : Int32} {x5 x6 : Value} (hL : OL k 0) (hM : OM k 80) (ho : shp k 105 = (4, 1)) : run (some sc) (285, 2292, [.retAddr 1, .ref 0, .ref 80, .ref 105, .int l4, x5, x6], []) (m, k) = ck (inb (l4 + (K 1)) sc.1) (cI (run none (ent 142 [.ref 0, .int (sc.2 (tn (l4 + (K 1))))]) (m, k)) (fun v h2 => run (some sc) (285, 2302, [.retAddr 1, .ref 0, .ref 80, .ref 105, .int l4, x5, x6], [.int v]) h2)) := (st_aload_n c285_2292 rfl).trans ((st_aload_s c285_2293 rfl).trans ((st_iload c285_2294 rfl).trans ((st_iconst (v := K 1) c285_2296 rfl).trans ((st_iadd c285_2297).trans ((st_sald c285_2298).trans (ck_cc (st_vi c285_2299 m285_246 rfl ((OLc hL).trans mo142) rfl rfl)))))))
theorem E285_2302 {sc : SC} {m : Mem} {k : Kst} {l4 s0 : Int32} {x5 x6 : Value} (hL : OL k 0) (hM : OM k 80) (ho : shp k 105 = (4, 1)) : run (some sc) (285, 2302, [.retAddr 1, .ref 0, .ref 80, .ref 105, .int l4, x5, x6], [.int s0]) (m, k) = ck (inb (l4 + (K 1)) sc.1) (cI (run none (ent 277 [.ref 80, .int (sc.2 (tn (l4 + (K 1))))]) (m, k)) (fun v h2 => run (some sc) (285, 2312, [.retAddr 1, .ref 0, .ref 80, .ref 105, .int l4, x5, x6], [.int v, .int s0]) h2)) := (st_aload_n c285_2302 rfl).trans ((st_aload_s c285_2303 rfl).trans ((st_iload c285_2304 rfl).trans ((st_iconst (v := K 1) c285_2306 rfl).trans ((st_iadd c285_2307).trans ((st_sald c285_2308).trans (ck_cc (st_vi c285_2309 m285_249 rfl ((OMc hM).trans mo277) rfl rfl)))))))
theorem E285_2312 {sc : SC} {m : Mem} {k : Kst} {l4 s1 s0 : Int32} {x5 x6 : Value} (hL : OL k 0) (hM : OM k 80) (ho : shp k 105 = (4, 1)) : run (some sc) (285, 2312, [.retAddr 1, .ref 0, .ref 80, .ref 105, .int l4, x5, x6], [.int s1, .int s0]) (m, k) = if s0 = s1 then run (some sc) (285, 2317, [.retAddr 1, .ref 0, .ref 80, .ref 105, .int l4, x5, x6], []) (m, k) else some ((0, K 0), (m, k)) := (st_icmp_eq (t := 2317) c285_2312 rfl).trans (ite_cc (rfl) ((st_iconst (v := K 0) c285_2315 rfl).trans (st_zret c285_2316 mr285 rfl)))
theorem E285_2317 {sc : SC} {m : Mem} {k : Kst} {l4 : Int32} {x5 x6 : Value} (hL : OL k 0) (hM : OM k 80) (ho : shp k 105 = (4, 1)) : run (some sc) (285, 2317, [.retAddr 1, .ref 0, .ref 80, .ref 105, .int l4, x5, x6], []) (m, k) = run (some sc) (285, 23, [.retAddr 1, .ref 0, .ref 80, .ref 105, .int (l4 + K 6), x5, x6], []) (m, k) := (st_iinc (v := K 6) c285_2317 rfl rfl rfl).trans (st_goto (t := 23) c285_2320 rfl)
