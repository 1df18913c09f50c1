/-! THE LAW, 2.0: its rows (by wip/whole/gen9f.py) -/
theorem dl_0 : decode code 0 = .ok (.new 8, 3) := by decide +kernel
theorem dl_3 : decode code 3 = .ok (.dup, 1) := by decide +kernel
theorem dl_4 : decode code 4 = .ok (.invokespecial 142, 3) := by decide +kernel
theorem dl_7 : decode code 7 = .ok (.astore_n 1, 1) := by decide +kernel
theorem dl_8 : decode code 8 = .ok (.new 143, 3) := by decide +kernel
theorem dl_11 : decode code 11 = .ok (.dup, 1) := by decide +kernel
theorem dl_12 : decode code 12 = .ok (.invokespecial 145, 3) := by decide +kernel
theorem dl_15 : decode code 15 = .ok (.astore_n 2, 1) := by decide +kernel
theorem dl_16 : decode code 16 = .ok (.iconst 1, 1) := by decide +kernel
theorem dl_17 : decode code 17 = .ok (.newarray .long, 2) := by decide +kernel
theorem dl_19 : decode code 19 = .ok (.astore_n 3, 1) := by decide +kernel
theorem dl_20 : decode code 20 = .ok (.iconst 0, 1) := by decide +kernel
theorem dl_21 : decode code 21 = .ok (.istore 4, 2) := by decide +kernel
theorem dl_23 : decode code 23 = .ok (.iload 4, 2) := by decide +kernel
theorem dl_25 : decode code 25 = .ok (.aload_n 0, 1) := by decide +kernel
theorem dl_26 : decode code 26 = .ok (.arraylength, 1) := by decide +kernel
theorem dl_27 : decode code 27 = .ok (.iconst 4, 1) := by decide +kernel
theorem dl_28 : decode code 28 = .ok (.isub, 1) := by decide +kernel
theorem dl_29 : decode code 29 = .ok (.if_icmp .gt (3002), 3) := by decide +kernel
theorem dl_32 : decode code 32 = .ok (.aload_n 0, 1) := by decide +kernel
theorem dl_33 : decode code 33 = .ok (.iload 4, 2) := by decide +kernel
theorem dl_35 : decode code 35 = .ok (.iaload, 1) := by decide +kernel
theorem dl_36 : decode code 36 = .ok (.bipush 63, 2) := by decide +kernel
theorem dl_38 : decode code 38 = .ok (.iand, 1) := by decide +kernel
theorem dl_39 : decode code 39 = .ok (.tableswitch 2986 0 52 #[225, 282, 295, 308, 321, 334, 390, 458, 526, 594, 650, 734, 818, 902, 982, 1050, 1106, 1162, 1225, 1281, 1294, 1350, 1406, 1419, 1487, 1555, 1618, 1709, 1765, 1821, 1877, 1933, 1989, 2045, 2101, 2157, 2213, 2269, 2325, 2381, 2394, 2462, 2518, 2574, 2587, 2600, 2656, 2669, 2737, 2805, 2818, 2874, 2930], 225) := by decide +kernel
theorem dl_264 : decode code 264 = .ok (.aload_n 1, 1) := by decide +kernel
theorem dl_265 : decode code 265 = .ok (.aload_n 0, 1) := by decide +kernel
theorem dl_266 : decode code 266 = .ok (.iload 4, 2) := by decide +kernel
theorem dl_268 : decode code 268 = .ok (.iconst 1, 1) := by decide +kernel
theorem dl_269 : decode code 269 = .ok (.iadd, 1) := by decide +kernel
theorem dl_270 : decode code 270 = .ok (.iaload, 1) := by decide +kernel
theorem dl_271 : decode code 271 = .ok (.i2l, 1) := by decide +kernel
theorem dl_272 : decode code 272 = .ok (.bipush 32, 2) := by decide +kernel
theorem dl_274 : decode code 274 = .ok (.lshl, 1) := by decide +kernel
theorem dl_275 : decode code 275 = .ok (.aload_n 0, 1) := by decide +kernel
theorem dl_276 : decode code 276 = .ok (.iload 4, 2) := by decide +kernel
theorem dl_278 : decode code 278 = .ok (.iconst 2, 1) := by decide +kernel
theorem dl_279 : decode code 279 = .ok (.iadd, 1) := by decide +kernel
theorem dl_280 : decode code 280 = .ok (.iaload, 1) := by decide +kernel
theorem dl_281 : decode code 281 = .ok (.i2l, 1) := by decide +kernel
theorem dl_282 : decode code 282 = .ok (.ldc2_w 146, 3) := by decide +kernel
theorem dl_285 : decode code 285 = .ok (.land, 1) := by decide +kernel
theorem dl_286 : decode code 286 = .ok (.lor, 1) := by decide +kernel
theorem dl_287 : decode code 287 = .ok (.invokevirtual 148, 3) := by decide +kernel
theorem dl_290 : decode code 290 = .ok (.aload_n 2, 1) := by decide +kernel
theorem dl_291 : decode code 291 = .ok (.aload_n 0, 1) := by decide +kernel
theorem dl_292 : decode code 292 = .ok (.iload 4, 2) := by decide +kernel
theorem dl_294 : decode code 294 = .ok (.iconst 1, 1) := by decide +kernel
theorem dl_295 : decode code 295 = .ok (.iadd, 1) := by decide +kernel
theorem dl_296 : decode code 296 = .ok (.iaload, 1) := by decide +kernel
theorem dl_297 : decode code 297 = .ok (.i2l, 1) := by decide +kernel
theorem dl_298 : decode code 298 = .ok (.bipush 32, 2) := by decide +kernel
theorem dl_300 : decode code 300 = .ok (.lshl, 1) := by decide +kernel
theorem dl_301 : decode code 301 = .ok (.aload_n 0, 1) := by decide +kernel
theorem dl_302 : decode code 302 = .ok (.iload 4, 2) := by decide +kernel
theorem dl_304 : decode code 304 = .ok (.iconst 2, 1) := by decide +kernel
theorem dl_305 : decode code 305 = .ok (.iadd, 1) := by decide +kernel
theorem dl_306 : decode code 306 = .ok (.iaload, 1) := by decide +kernel
theorem dl_307 : decode code 307 = .ok (.i2l, 1) := by decide +kernel
theorem dl_308 : decode code 308 = .ok (.ldc2_w 146, 3) := by decide +kernel
theorem dl_311 : decode code 311 = .ok (.land, 1) := by decide +kernel
theorem dl_312 : decode code 312 = .ok (.lor, 1) := by decide +kernel
theorem dl_313 : decode code 313 = .ok (.invokevirtual 152, 3) := by decide +kernel
theorem dl_316 : decode code 316 = .ok (.if_icmp .eq (2709), 3) := by decide +kernel
theorem dl_321 : decode code 321 = .ok (.aload_n 1, 1) := by decide +kernel
theorem dl_322 : decode code 322 = .ok (.invokevirtual 153, 3) := by decide +kernel
theorem dl_325 : decode code 325 = .ok (.aload_n 2, 1) := by decide +kernel
theorem dl_326 : decode code 326 = .ok (.invokevirtual 157, 3) := by decide +kernel
theorem dl_329 : decode code 329 = .ok (.if_icmp .eq (2696), 3) := by decide +kernel
theorem dl_334 : decode code 334 = .ok (.aload_n 1, 1) := by decide +kernel
theorem dl_335 : decode code 335 = .ok (.invokevirtual 158, 3) := by decide +kernel
theorem dl_338 : decode code 338 = .ok (.aload_n 2, 1) := by decide +kernel
theorem dl_339 : decode code 339 = .ok (.invokevirtual 161, 3) := by decide +kernel
theorem dl_342 : decode code 342 = .ok (.if_icmp .eq (2683), 3) := by decide +kernel
theorem dl_347 : decode code 347 = .ok (.aload_n 1, 1) := by decide +kernel
theorem dl_348 : decode code 348 = .ok (.invokevirtual 162, 3) := by decide +kernel
theorem dl_351 : decode code 351 = .ok (.aload_n 2, 1) := by decide +kernel
theorem dl_352 : decode code 352 = .ok (.invokevirtual 165, 3) := by decide +kernel
theorem dl_355 : decode code 355 = .ok (.if_icmp .eq (2670), 3) := by decide +kernel
theorem dl_360 : decode code 360 = .ok (.aload_n 1, 1) := by decide +kernel
theorem dl_361 : decode code 361 = .ok (.invokevirtual 166, 3) := by decide +kernel
theorem dl_364 : decode code 364 = .ok (.aload_n 2, 1) := by decide +kernel
theorem dl_365 : decode code 365 = .ok (.invokevirtual 169, 3) := by decide +kernel
theorem dl_368 : decode code 368 = .ok (.if_icmp .eq (2657), 3) := by decide +kernel
theorem dl_373 : decode code 373 = .ok (.aload_n 1, 1) := by decide +kernel
theorem dl_374 : decode code 374 = .ok (.aload_n 0, 1) := by decide +kernel
theorem dl_375 : decode code 375 = .ok (.iload 4, 2) := by decide +kernel
theorem dl_377 : decode code 377 = .ok (.iconst 1, 1) := by decide +kernel
theorem dl_378 : decode code 378 = .ok (.iadd, 1) := by decide +kernel
theorem dl_379 : decode code 379 = .ok (.iaload, 1) := by decide +kernel
theorem dl_380 : decode code 380 = .ok (.aload_n 3, 1) := by decide +kernel
theorem dl_381 : decode code 381 = .ok (.invokestatic 170, 3) := by decide +kernel
theorem dl_384 : decode code 384 = .ok (.istore 5, 2) := by decide +kernel
theorem dl_386 : decode code 386 = .ok (.aload_n 2, 1) := by decide +kernel
theorem dl_387 : decode code 387 = .ok (.aload_n 0, 1) := by decide +kernel
theorem dl_388 : decode code 388 = .ok (.iload 4, 2) := by decide +kernel
theorem dl_390 : decode code 390 = .ok (.iconst 1, 1) := by decide +kernel
theorem dl_391 : decode code 391 = .ok (.iadd, 1) := by decide +kernel
theorem dl_392 : decode code 392 = .ok (.iaload, 1) := by decide +kernel
theorem dl_393 : decode code 393 = .ok (.invokevirtual 175, 3) := by decide +kernel
theorem dl_396 : decode code 396 = .ok (.istore 6, 2) := by decide +kernel
theorem dl_398 : decode code 398 = .ok (.aload_n 2, 1) := by decide +kernel
theorem dl_399 : decode code 399 = .ok (.invokevirtual 176, 3) := by decide +kernel
theorem dl_402 : decode code 402 = .ok (.iload 5, 2) := by decide +kernel
theorem dl_404 : decode code 404 = .ok (.if_icmp .eq (5), 3) := by decide +kernel
theorem dl_409 : decode code 409 = .ok (.iload 5, 2) := by decide +kernel
theorem dl_411 : decode code 411 = .ok (.ifCond .ne (15), 3) := by decide +kernel
theorem dl_414 : decode code 414 = .ok (.aload_n 3, 1) := by decide +kernel
theorem dl_415 : decode code 415 = .ok (.iconst 0, 1) := by decide +kernel
theorem dl_416 : decode code 416 = .ok (.laload, 1) := by decide +kernel
theorem dl_417 : decode code 417 = .ok (.iload 6, 2) := by decide +kernel
theorem dl_419 : decode code 419 = .ok (.i2l, 1) := by decide +kernel
theorem dl_420 : decode code 420 = .ok (.lcmp, 1) := by decide +kernel
theorem dl_421 : decode code 421 = .ok (.ifCond .eq (5), 3) := by decide +kernel
theorem dl_426 : decode code 426 = .ok (.goto (2599), 3) := by decide +kernel
theorem dl_429 : decode code 429 = .ok (.aload_n 1, 1) := by decide +kernel
theorem dl_430 : decode code 430 = .ok (.aload_n 0, 1) := by decide +kernel
theorem dl_431 : decode code 431 = .ok (.iload 4, 2) := by decide +kernel
theorem dl_433 : decode code 433 = .ok (.iconst 1, 1) := by decide +kernel
theorem dl_434 : decode code 434 = .ok (.iadd, 1) := by decide +kernel
theorem dl_435 : decode code 435 = .ok (.iaload, 1) := by decide +kernel
theorem dl_436 : decode code 436 = .ok (.aload_n 0, 1) := by decide +kernel
theorem dl_437 : decode code 437 = .ok (.iload 4, 2) := by decide +kernel
theorem dl_439 : decode code 439 = .ok (.iconst 2, 1) := by decide +kernel
theorem dl_440 : decode code 440 = .ok (.iadd, 1) := by decide +kernel
theorem dl_441 : decode code 441 = .ok (.iaload, 1) := by decide +kernel
theorem dl_442 : decode code 442 = .ok (.aload_n 3, 1) := by decide +kernel
theorem dl_443 : decode code 443 = .ok (.invokestatic 179, 3) := by decide +kernel
theorem dl_446 : decode code 446 = .ok (.istore 5, 2) := by decide +kernel
theorem dl_448 : decode code 448 = .ok (.aload_n 2, 1) := by decide +kernel
theorem dl_449 : decode code 449 = .ok (.aload_n 0, 1) := by decide +kernel
theorem dl_450 : decode code 450 = .ok (.iload 4, 2) := by decide +kernel
theorem dl_452 : decode code 452 = .ok (.iconst 1, 1) := by decide +kernel
theorem dl_453 : decode code 453 = .ok (.iadd, 1) := by decide +kernel
theorem dl_454 : decode code 454 = .ok (.iaload, 1) := by decide +kernel
theorem dl_455 : decode code 455 = .ok (.aload_n 0, 1) := by decide +kernel
theorem dl_456 : decode code 456 = .ok (.iload 4, 2) := by decide +kernel
theorem dl_458 : decode code 458 = .ok (.iconst 2, 1) := by decide +kernel
theorem dl_459 : decode code 459 = .ok (.iadd, 1) := by decide +kernel
theorem dl_460 : decode code 460 = .ok (.iaload, 1) := by decide +kernel
theorem dl_461 : decode code 461 = .ok (.invokevirtual 182, 3) := by decide +kernel
theorem dl_464 : decode code 464 = .ok (.istore 6, 2) := by decide +kernel
theorem dl_466 : decode code 466 = .ok (.aload_n 2, 1) := by decide +kernel
theorem dl_467 : decode code 467 = .ok (.invokevirtual 176, 3) := by decide +kernel
theorem dl_470 : decode code 470 = .ok (.iload 5, 2) := by decide +kernel
theorem dl_472 : decode code 472 = .ok (.if_icmp .eq (5), 3) := by decide +kernel
theorem dl_477 : decode code 477 = .ok (.iload 5, 2) := by decide +kernel
theorem dl_479 : decode code 479 = .ok (.ifCond .ne (15), 3) := by decide +kernel
theorem dl_482 : decode code 482 = .ok (.aload_n 3, 1) := by decide +kernel
theorem dl_483 : decode code 483 = .ok (.iconst 0, 1) := by decide +kernel
theorem dl_484 : decode code 484 = .ok (.laload, 1) := by decide +kernel
theorem dl_485 : decode code 485 = .ok (.iload 6, 2) := by decide +kernel
theorem dl_487 : decode code 487 = .ok (.i2l, 1) := by decide +kernel
theorem dl_488 : decode code 488 = .ok (.lcmp, 1) := by decide +kernel
theorem dl_489 : decode code 489 = .ok (.ifCond .eq (5), 3) := by decide +kernel
theorem dl_494 : decode code 494 = .ok (.goto (2531), 3) := by decide +kernel
theorem dl_497 : decode code 497 = .ok (.aload_n 1, 1) := by decide +kernel
theorem dl_498 : decode code 498 = .ok (.aload_n 0, 1) := by decide +kernel
theorem dl_499 : decode code 499 = .ok (.iload 4, 2) := by decide +kernel
theorem dl_501 : decode code 501 = .ok (.iconst 1, 1) := by decide +kernel
theorem dl_502 : decode code 502 = .ok (.iadd, 1) := by decide +kernel
theorem dl_503 : decode code 503 = .ok (.iaload, 1) := by decide +kernel
theorem dl_504 : decode code 504 = .ok (.aload_n 0, 1) := by decide +kernel
theorem dl_505 : decode code 505 = .ok (.iload 4, 2) := by decide +kernel
theorem dl_507 : decode code 507 = .ok (.iconst 2, 1) := by decide +kernel
theorem dl_508 : decode code 508 = .ok (.iadd, 1) := by decide +kernel
theorem dl_509 : decode code 509 = .ok (.iaload, 1) := by decide +kernel
theorem dl_510 : decode code 510 = .ok (.aload_n 3, 1) := by decide +kernel
theorem dl_511 : decode code 511 = .ok (.invokestatic 183, 3) := by decide +kernel
theorem dl_514 : decode code 514 = .ok (.istore 5, 2) := by decide +kernel
theorem dl_516 : decode code 516 = .ok (.aload_n 2, 1) := by decide +kernel
theorem dl_517 : decode code 517 = .ok (.aload_n 0, 1) := by decide +kernel
theorem dl_518 : decode code 518 = .ok (.iload 4, 2) := by decide +kernel
theorem dl_520 : decode code 520 = .ok (.iconst 1, 1) := by decide +kernel
theorem dl_521 : decode code 521 = .ok (.iadd, 1) := by decide +kernel
theorem dl_522 : decode code 522 = .ok (.iaload, 1) := by decide +kernel
theorem dl_523 : decode code 523 = .ok (.aload_n 0, 1) := by decide +kernel
theorem dl_524 : decode code 524 = .ok (.iload 4, 2) := by decide +kernel
theorem dl_526 : decode code 526 = .ok (.iconst 2, 1) := by decide +kernel
theorem dl_527 : decode code 527 = .ok (.iadd, 1) := by decide +kernel
theorem dl_528 : decode code 528 = .ok (.iaload, 1) := by decide +kernel
theorem dl_529 : decode code 529 = .ok (.invokevirtual 185, 3) := by decide +kernel
theorem dl_532 : decode code 532 = .ok (.istore 6, 2) := by decide +kernel
theorem dl_534 : decode code 534 = .ok (.aload_n 2, 1) := by decide +kernel
theorem dl_535 : decode code 535 = .ok (.invokevirtual 176, 3) := by decide +kernel
theorem dl_538 : decode code 538 = .ok (.iload 5, 2) := by decide +kernel
theorem dl_540 : decode code 540 = .ok (.if_icmp .eq (5), 3) := by decide +kernel
theorem dl_545 : decode code 545 = .ok (.iload 5, 2) := by decide +kernel
theorem dl_547 : decode code 547 = .ok (.ifCond .ne (15), 3) := by decide +kernel
theorem dl_550 : decode code 550 = .ok (.aload_n 3, 1) := by decide +kernel
theorem dl_551 : decode code 551 = .ok (.iconst 0, 1) := by decide +kernel
theorem dl_552 : decode code 552 = .ok (.laload, 1) := by decide +kernel
theorem dl_553 : decode code 553 = .ok (.iload 6, 2) := by decide +kernel
theorem dl_555 : decode code 555 = .ok (.i2l, 1) := by decide +kernel
theorem dl_556 : decode code 556 = .ok (.lcmp, 1) := by decide +kernel
theorem dl_557 : decode code 557 = .ok (.ifCond .eq (5), 3) := by decide +kernel
theorem dl_562 : decode code 562 = .ok (.goto (2463), 3) := by decide +kernel
theorem dl_565 : decode code 565 = .ok (.aload_n 1, 1) := by decide +kernel
theorem dl_566 : decode code 566 = .ok (.aload_n 0, 1) := by decide +kernel
theorem dl_567 : decode code 567 = .ok (.iload 4, 2) := by decide +kernel
theorem dl_569 : decode code 569 = .ok (.iconst 1, 1) := by decide +kernel
theorem dl_570 : decode code 570 = .ok (.iadd, 1) := by decide +kernel
theorem dl_571 : decode code 571 = .ok (.iaload, 1) := by decide +kernel
theorem dl_572 : decode code 572 = .ok (.aload_n 0, 1) := by decide +kernel
theorem dl_573 : decode code 573 = .ok (.iload 4, 2) := by decide +kernel
theorem dl_575 : decode code 575 = .ok (.iconst 2, 1) := by decide +kernel
theorem dl_576 : decode code 576 = .ok (.iadd, 1) := by decide +kernel
theorem dl_577 : decode code 577 = .ok (.iaload, 1) := by decide +kernel
theorem dl_578 : decode code 578 = .ok (.aload_n 3, 1) := by decide +kernel
theorem dl_579 : decode code 579 = .ok (.invokestatic 186, 3) := by decide +kernel
theorem dl_582 : decode code 582 = .ok (.istore 5, 2) := by decide +kernel
theorem dl_584 : decode code 584 = .ok (.aload_n 2, 1) := by decide +kernel
theorem dl_585 : decode code 585 = .ok (.aload_n 0, 1) := by decide +kernel
theorem dl_586 : decode code 586 = .ok (.iload 4, 2) := by decide +kernel
theorem dl_588 : decode code 588 = .ok (.iconst 1, 1) := by decide +kernel
theorem dl_589 : decode code 589 = .ok (.iadd, 1) := by decide +kernel
theorem dl_590 : decode code 590 = .ok (.iaload, 1) := by decide +kernel
theorem dl_591 : decode code 591 = .ok (.aload_n 0, 1) := by decide +kernel
theorem dl_592 : decode code 592 = .ok (.iload 4, 2) := by decide +kernel
theorem dl_594 : decode code 594 = .ok (.iconst 2, 1) := by decide +kernel
theorem dl_595 : decode code 595 = .ok (.iadd, 1) := by decide +kernel
theorem dl_596 : decode code 596 = .ok (.iaload, 1) := by decide +kernel
theorem dl_597 : decode code 597 = .ok (.invokevirtual 188, 3) := by decide +kernel
theorem dl_600 : decode code 600 = .ok (.istore 6, 2) := by decide +kernel
theorem dl_602 : decode code 602 = .ok (.aload_n 2, 1) := by decide +kernel
theorem dl_603 : decode code 603 = .ok (.invokevirtual 176, 3) := by decide +kernel
theorem dl_606 : decode code 606 = .ok (.iload 5, 2) := by decide +kernel
theorem dl_608 : decode code 608 = .ok (.if_icmp .eq (5), 3) := by decide +kernel
theorem dl_613 : decode code 613 = .ok (.iload 5, 2) := by decide +kernel
theorem dl_615 : decode code 615 = .ok (.ifCond .ne (15), 3) := by decide +kernel
theorem dl_618 : decode code 618 = .ok (.aload_n 3, 1) := by decide +kernel
theorem dl_619 : decode code 619 = .ok (.iconst 0, 1) := by decide +kernel
theorem dl_620 : decode code 620 = .ok (.laload, 1) := by decide +kernel
theorem dl_621 : decode code 621 = .ok (.iload 6, 2) := by decide +kernel
theorem dl_623 : decode code 623 = .ok (.i2l, 1) := by decide +kernel
theorem dl_624 : decode code 624 = .ok (.lcmp, 1) := by decide +kernel
theorem dl_625 : decode code 625 = .ok (.ifCond .eq (5), 3) := by decide +kernel
theorem dl_630 : decode code 630 = .ok (.goto (2395), 3) := by decide +kernel
theorem dl_633 : decode code 633 = .ok (.aload_n 1, 1) := by decide +kernel
theorem dl_634 : decode code 634 = .ok (.aload_n 0, 1) := by decide +kernel
theorem dl_635 : decode code 635 = .ok (.iload 4, 2) := by decide +kernel
theorem dl_637 : decode code 637 = .ok (.iconst 1, 1) := by decide +kernel
theorem dl_638 : decode code 638 = .ok (.iadd, 1) := by decide +kernel
theorem dl_639 : decode code 639 = .ok (.iaload, 1) := by decide +kernel
theorem dl_640 : decode code 640 = .ok (.aload_n 3, 1) := by decide +kernel
theorem dl_641 : decode code 641 = .ok (.invokestatic 189, 3) := by decide +kernel
theorem dl_644 : decode code 644 = .ok (.istore 5, 2) := by decide +kernel
theorem dl_646 : decode code 646 = .ok (.aload_n 2, 1) := by decide +kernel
theorem dl_647 : decode code 647 = .ok (.aload_n 0, 1) := by decide +kernel
theorem dl_648 : decode code 648 = .ok (.iload 4, 2) := by decide +kernel
theorem dl_650 : decode code 650 = .ok (.iconst 1, 1) := by decide +kernel
theorem dl_651 : decode code 651 = .ok (.iadd, 1) := by decide +kernel
theorem dl_652 : decode code 652 = .ok (.iaload, 1) := by decide +kernel
theorem dl_653 : decode code 653 = .ok (.invokevirtual 191, 3) := by decide +kernel
theorem dl_656 : decode code 656 = .ok (.istore 6, 2) := by decide +kernel
theorem dl_658 : decode code 658 = .ok (.aload_n 2, 1) := by decide +kernel
theorem dl_659 : decode code 659 = .ok (.invokevirtual 176, 3) := by decide +kernel
theorem dl_662 : decode code 662 = .ok (.iload 5, 2) := by decide +kernel
theorem dl_664 : decode code 664 = .ok (.if_icmp .eq (5), 3) := by decide +kernel
theorem dl_669 : decode code 669 = .ok (.iload 5, 2) := by decide +kernel
theorem dl_671 : decode code 671 = .ok (.ifCond .ne (15), 3) := by decide +kernel
theorem dl_674 : decode code 674 = .ok (.aload_n 3, 1) := by decide +kernel
theorem dl_675 : decode code 675 = .ok (.iconst 0, 1) := by decide +kernel
theorem dl_676 : decode code 676 = .ok (.laload, 1) := by decide +kernel
theorem dl_677 : decode code 677 = .ok (.iload 6, 2) := by decide +kernel
theorem dl_679 : decode code 679 = .ok (.i2l, 1) := by decide +kernel
theorem dl_680 : decode code 680 = .ok (.lcmp, 1) := by decide +kernel
theorem dl_681 : decode code 681 = .ok (.ifCond .eq (5), 3) := by decide +kernel
theorem dl_686 : decode code 686 = .ok (.goto (2339), 3) := by decide +kernel
theorem dl_689 : decode code 689 = .ok (.aload_n 1, 1) := by decide +kernel
theorem dl_690 : decode code 690 = .ok (.aload_n 0, 1) := by decide +kernel
theorem dl_691 : decode code 691 = .ok (.iload 4, 2) := by decide +kernel
theorem dl_693 : decode code 693 = .ok (.iconst 1, 1) := by decide +kernel
theorem dl_694 : decode code 694 = .ok (.iadd, 1) := by decide +kernel
theorem dl_695 : decode code 695 = .ok (.iaload, 1) := by decide +kernel
theorem dl_696 : decode code 696 = .ok (.aload_n 0, 1) := by decide +kernel
theorem dl_697 : decode code 697 = .ok (.iload 4, 2) := by decide +kernel
theorem dl_699 : decode code 699 = .ok (.iconst 2, 1) := by decide +kernel
theorem dl_700 : decode code 700 = .ok (.iadd, 1) := by decide +kernel
theorem dl_701 : decode code 701 = .ok (.iaload, 1) := by decide +kernel
theorem dl_702 : decode code 702 = .ok (.ifCond .eq (7), 3) := by decide +kernel
theorem dl_705 : decode code 705 = .ok (.iconst 1, 1) := by decide +kernel
theorem dl_706 : decode code 706 = .ok (.goto (4), 3) := by decide +kernel
theorem dl_709 : decode code 709 = .ok (.iconst 0, 1) := by decide +kernel
theorem dl_710 : decode code 710 = .ok (.aload_n 3, 1) := by decide +kernel
theorem dl_711 : decode code 711 = .ok (.invokestatic 192, 3) := by decide +kernel
theorem dl_714 : decode code 714 = .ok (.istore 5, 2) := by decide +kernel
theorem dl_716 : decode code 716 = .ok (.aload_n 2, 1) := by decide +kernel
theorem dl_717 : decode code 717 = .ok (.aload_n 0, 1) := by decide +kernel
theorem dl_718 : decode code 718 = .ok (.iload 4, 2) := by decide +kernel
theorem dl_720 : decode code 720 = .ok (.iconst 1, 1) := by decide +kernel
theorem dl_721 : decode code 721 = .ok (.iadd, 1) := by decide +kernel
theorem dl_722 : decode code 722 = .ok (.iaload, 1) := by decide +kernel
theorem dl_723 : decode code 723 = .ok (.aload_n 0, 1) := by decide +kernel
theorem dl_724 : decode code 724 = .ok (.iload 4, 2) := by decide +kernel
theorem dl_726 : decode code 726 = .ok (.iconst 2, 1) := by decide +kernel
theorem dl_727 : decode code 727 = .ok (.iadd, 1) := by decide +kernel
theorem dl_728 : decode code 728 = .ok (.iaload, 1) := by decide +kernel
theorem dl_729 : decode code 729 = .ok (.ifCond .eq (7), 3) := by decide +kernel
theorem dl_732 : decode code 732 = .ok (.iconst 1, 1) := by decide +kernel
theorem dl_733 : decode code 733 = .ok (.goto (4), 3) := by decide +kernel
theorem dl_736 : decode code 736 = .ok (.iconst 0, 1) := by decide +kernel
theorem dl_737 : decode code 737 = .ok (.invokevirtual 195, 3) := by decide +kernel
theorem dl_740 : decode code 740 = .ok (.istore 6, 2) := by decide +kernel
theorem dl_742 : decode code 742 = .ok (.aload_n 2, 1) := by decide +kernel
theorem dl_743 : decode code 743 = .ok (.invokevirtual 176, 3) := by decide +kernel
theorem dl_746 : decode code 746 = .ok (.iload 5, 2) := by decide +kernel
theorem dl_748 : decode code 748 = .ok (.if_icmp .eq (5), 3) := by decide +kernel
theorem dl_753 : decode code 753 = .ok (.iload 5, 2) := by decide +kernel
theorem dl_755 : decode code 755 = .ok (.ifCond .ne (15), 3) := by decide +kernel
theorem dl_758 : decode code 758 = .ok (.aload_n 3, 1) := by decide +kernel
theorem dl_759 : decode code 759 = .ok (.iconst 0, 1) := by decide +kernel
theorem dl_760 : decode code 760 = .ok (.laload, 1) := by decide +kernel
theorem dl_761 : decode code 761 = .ok (.iload 6, 2) := by decide +kernel
theorem dl_763 : decode code 763 = .ok (.i2l, 1) := by decide +kernel
theorem dl_764 : decode code 764 = .ok (.lcmp, 1) := by decide +kernel
theorem dl_765 : decode code 765 = .ok (.ifCond .eq (5), 3) := by decide +kernel
theorem dl_770 : decode code 770 = .ok (.goto (2255), 3) := by decide +kernel
theorem dl_773 : decode code 773 = .ok (.aload_n 1, 1) := by decide +kernel
theorem dl_774 : decode code 774 = .ok (.aload_n 0, 1) := by decide +kernel
theorem dl_775 : decode code 775 = .ok (.iload 4, 2) := by decide +kernel
theorem dl_777 : decode code 777 = .ok (.iconst 1, 1) := by decide +kernel
theorem dl_778 : decode code 778 = .ok (.iadd, 1) := by decide +kernel
theorem dl_779 : decode code 779 = .ok (.iaload, 1) := by decide +kernel
theorem dl_780 : decode code 780 = .ok (.aload_n 0, 1) := by decide +kernel
theorem dl_781 : decode code 781 = .ok (.iload 4, 2) := by decide +kernel
theorem dl_783 : decode code 783 = .ok (.iconst 2, 1) := by decide +kernel
theorem dl_784 : decode code 784 = .ok (.iadd, 1) := by decide +kernel
theorem dl_785 : decode code 785 = .ok (.iaload, 1) := by decide +kernel
theorem dl_786 : decode code 786 = .ok (.ifCond .eq (7), 3) := by decide +kernel
theorem dl_789 : decode code 789 = .ok (.iconst 1, 1) := by decide +kernel
theorem dl_790 : decode code 790 = .ok (.goto (4), 3) := by decide +kernel
theorem dl_793 : decode code 793 = .ok (.iconst 0, 1) := by decide +kernel
theorem dl_794 : decode code 794 = .ok (.aload_n 3, 1) := by decide +kernel
theorem dl_795 : decode code 795 = .ok (.invokestatic 196, 3) := by decide +kernel
theorem dl_798 : decode code 798 = .ok (.istore 5, 2) := by decide +kernel
theorem dl_800 : decode code 800 = .ok (.aload_n 2, 1) := by decide +kernel
theorem dl_801 : decode code 801 = .ok (.aload_n 0, 1) := by decide +kernel
theorem dl_802 : decode code 802 = .ok (.iload 4, 2) := by decide +kernel
theorem dl_804 : decode code 804 = .ok (.iconst 1, 1) := by decide +kernel
theorem dl_805 : decode code 805 = .ok (.iadd, 1) := by decide +kernel
theorem dl_806 : decode code 806 = .ok (.iaload, 1) := by decide +kernel
theorem dl_807 : decode code 807 = .ok (.aload_n 0, 1) := by decide +kernel
theorem dl_808 : decode code 808 = .ok (.iload 4, 2) := by decide +kernel
theorem dl_810 : decode code 810 = .ok (.iconst 2, 1) := by decide +kernel
theorem dl_811 : decode code 811 = .ok (.iadd, 1) := by decide +kernel
theorem dl_812 : decode code 812 = .ok (.iaload, 1) := by decide +kernel
theorem dl_813 : decode code 813 = .ok (.ifCond .eq (7), 3) := by decide +kernel
theorem dl_816 : decode code 816 = .ok (.iconst 1, 1) := by decide +kernel
theorem dl_817 : decode code 817 = .ok (.goto (4), 3) := by decide +kernel
theorem dl_820 : decode code 820 = .ok (.iconst 0, 1) := by decide +kernel
theorem dl_821 : decode code 821 = .ok (.invokevirtual 198, 3) := by decide +kernel
theorem dl_824 : decode code 824 = .ok (.istore 6, 2) := by decide +kernel
theorem dl_826 : decode code 826 = .ok (.aload_n 2, 1) := by decide +kernel
theorem dl_827 : decode code 827 = .ok (.invokevirtual 176, 3) := by decide +kernel
theorem dl_830 : decode code 830 = .ok (.iload 5, 2) := by decide +kernel
theorem dl_832 : decode code 832 = .ok (.if_icmp .eq (5), 3) := by decide +kernel
theorem dl_837 : decode code 837 = .ok (.iload 5, 2) := by decide +kernel
theorem dl_839 : decode code 839 = .ok (.ifCond .ne (15), 3) := by decide +kernel
theorem dl_842 : decode code 842 = .ok (.aload_n 3, 1) := by decide +kernel
theorem dl_843 : decode code 843 = .ok (.iconst 0, 1) := by decide +kernel
theorem dl_844 : decode code 844 = .ok (.laload, 1) := by decide +kernel
theorem dl_845 : decode code 845 = .ok (.iload 6, 2) := by decide +kernel
theorem dl_847 : decode code 847 = .ok (.i2l, 1) := by decide +kernel
theorem dl_848 : decode code 848 = .ok (.lcmp, 1) := by decide +kernel
theorem dl_849 : decode code 849 = .ok (.ifCond .eq (5), 3) := by decide +kernel
theorem dl_854 : decode code 854 = .ok (.goto (2171), 3) := by decide +kernel
theorem dl_857 : decode code 857 = .ok (.aload_n 1, 1) := by decide +kernel
theorem dl_858 : decode code 858 = .ok (.aload_n 0, 1) := by decide +kernel
theorem dl_859 : decode code 859 = .ok (.iload 4, 2) := by decide +kernel
theorem dl_861 : decode code 861 = .ok (.iconst 1, 1) := by decide +kernel
theorem dl_862 : decode code 862 = .ok (.iadd, 1) := by decide +kernel
theorem dl_863 : decode code 863 = .ok (.iaload, 1) := by decide +kernel
theorem dl_864 : decode code 864 = .ok (.aload_n 0, 1) := by decide +kernel
theorem dl_865 : decode code 865 = .ok (.iload 4, 2) := by decide +kernel
theorem dl_867 : decode code 867 = .ok (.iconst 2, 1) := by decide +kernel
theorem dl_868 : decode code 868 = .ok (.iadd, 1) := by decide +kernel
theorem dl_869 : decode code 869 = .ok (.iaload, 1) := by decide +kernel
theorem dl_870 : decode code 870 = .ok (.ifCond .eq (7), 3) := by decide +kernel
theorem dl_873 : decode code 873 = .ok (.iconst 1, 1) := by decide +kernel
theorem dl_874 : decode code 874 = .ok (.goto (4), 3) := by decide +kernel
theorem dl_877 : decode code 877 = .ok (.iconst 0, 1) := by decide +kernel
theorem dl_878 : decode code 878 = .ok (.aload_n 3, 1) := by decide +kernel
theorem dl_879 : decode code 879 = .ok (.invokestatic 199, 3) := by decide +kernel
theorem dl_882 : decode code 882 = .ok (.istore 5, 2) := by decide +kernel
theorem dl_884 : decode code 884 = .ok (.aload_n 2, 1) := by decide +kernel
theorem dl_885 : decode code 885 = .ok (.aload_n 0, 1) := by decide +kernel
theorem dl_886 : decode code 886 = .ok (.iload 4, 2) := by decide +kernel
theorem dl_888 : decode code 888 = .ok (.iconst 1, 1) := by decide +kernel
theorem dl_889 : decode code 889 = .ok (.iadd, 1) := by decide +kernel
theorem dl_890 : decode code 890 = .ok (.iaload, 1) := by decide +kernel
theorem dl_891 : decode code 891 = .ok (.aload_n 0, 1) := by decide +kernel
theorem dl_892 : decode code 892 = .ok (.iload 4, 2) := by decide +kernel
theorem dl_894 : decode code 894 = .ok (.iconst 2, 1) := by decide +kernel
theorem dl_895 : decode code 895 = .ok (.iadd, 1) := by decide +kernel
theorem dl_896 : decode code 896 = .ok (.iaload, 1) := by decide +kernel
theorem flw_0 : lw_tbl[494]? = some (.methodLink fl_own 148 y_6.1) := by decide +kernel
theorem flw_1 : lw_tbl[495]? = some (.instanceMethod y_6.1) := by decide +kernel
theorem flw_2 : lw_tbl[496]? = some (.selects y_6.1.cls y_6.1 y_6.1) := by decide +kernel
theorem flw_3 : lw_tbl[1449]? = some (.methodLink fl_own 152 y_147.1) := by decide +kernel
theorem flw_4 : lw_tbl[1450]? = some (.instanceMethod y_147.1) := by decide +kernel
theorem flw_5 : lw_tbl[1451]? = some (.selects y_147.1.cls y_147.1 y_147.1) := by decide +kernel
theorem flw_6 : lw_tbl[2090]? = some (.constantLong fl_own 146 4294967295) := by decide +kernel
theorem flw_7 : lw_tbl[499]? = some (.methodLink fl_own 153 y_7.1) := by decide +kernel
theorem flw_8 : lw_tbl[500]? = some (.instanceMethod y_7.1) := by decide +kernel
theorem flw_9 : lw_tbl[501]? = some (.selects y_7.1.cls y_7.1 y_7.1) := by decide +kernel
theorem flw_10 : lw_tbl[1458]? = some (.methodLink fl_own 157 y_149.1) := by decide +kernel
theorem flw_11 : lw_tbl[1459]? = some (.instanceMethod y_149.1) := by decide +kernel
theorem flw_12 : lw_tbl[1460]? = some (.selects y_149.1.cls y_149.1 y_149.1) := by decide +kernel
theorem flw_13 : lw_tbl[676]? = some (.methodLink fl_own 158 y_31.1) := by decide +kernel
theorem flw_14 : lw_tbl[677]? = some (.instanceMethod y_31.1) := by decide +kernel
theorem flw_15 : lw_tbl[678]? = some (.selects y_31.1.cls y_31.1 y_31.1) := by decide +kernel
theorem flw_16 : lw_tbl[1454]? = some (.methodLink fl_own 161 y_148.1) := by decide +kernel
theorem flw_17 : lw_tbl[1455]? = some (.instanceMethod y_148.1) := by decide +kernel
theorem flw_18 : lw_tbl[1456]? = some (.selects y_148.1.cls y_148.1 y_148.1) := by decide +kernel
theorem flw_19 : lw_tbl[680]? = some (.methodLink fl_own 162 y_32.1) := by decide +kernel
theorem flw_20 : lw_tbl[681]? = some (.instanceMethod y_32.1) := by decide +kernel
theorem flw_21 : lw_tbl[682]? = some (.selects y_32.1.cls y_32.1 y_32.1) := by decide +kernel
theorem flw_22 : lw_tbl[1588]? = some (.methodLink fl_own 165 y_174.1) := by decide +kernel
theorem flw_23 : lw_tbl[1589]? = some (.instanceMethod y_174.1) := by decide +kernel
theorem flw_24 : lw_tbl[1590]? = some (.selects y_174.1.cls y_174.1 y_174.1) := by decide +kernel
theorem flw_25 : lw_tbl[685]? = some (.methodLink fl_own 166 y_33.1) := by decide +kernel
theorem flw_26 : lw_tbl[686]? = some (.instanceMethod y_33.1) := by decide +kernel
theorem flw_27 : lw_tbl[687]? = some (.selects y_33.1.cls y_33.1 y_33.1) := by decide +kernel
theorem flw_28 : lw_tbl[1823]? = some (.methodLink fl_own 169 y_232.1) := by decide +kernel
theorem flw_29 : lw_tbl[1824]? = some (.instanceMethod y_232.1) := by decide +kernel
theorem flw_30 : lw_tbl[1825]? = some (.selects y_232.1.cls y_232.1 y_232.1) := by decide +kernel
theorem flw_31 : lw_tbl[1827]? = some (.methodLink fl_own 175 y_233.1) := by decide +kernel
theorem flw_32 : lw_tbl[1828]? = some (.instanceMethod y_233.1) := by decide +kernel
theorem flw_33 : lw_tbl[1829]? = some (.selects y_233.1.cls y_233.1 y_233.1) := by decide +kernel
theorem flw_34 : lw_tbl[941]? = some (.methodLink fl_own 170 yh_92.1) := by decide +kernel
theorem flw_35 : lw_tbl[942]? = some (.static yh_92.1) := by decide +kernel
theorem flw_36 : lw_tbl[943]? = some (.codeWith yh_92.1 yh_92.2.1 yh_92.2.2.1 yh_92.2.2.2 hh_92) := by decide +kernel
theorem flw_37 : lw_tbl[174]? = some (.initialized fl_own) := by decide +kernel
theorem flw_38 : lw_tbl[1839]? = some (.methodLink fl_own 182 y_236.1) := by decide +kernel
theorem flw_39 : lw_tbl[1840]? = some (.instanceMethod y_236.1) := by decide +kernel
theorem flw_40 : lw_tbl[1841]? = some (.selects y_236.1.cls y_236.1 y_236.1) := by decide +kernel
theorem flw_41 : lw_tbl[1019]? = some (.methodLink fl_own 179 yh_94.1) := by decide +kernel
theorem flw_42 : lw_tbl[1020]? = some (.static yh_94.1) := by decide +kernel
theorem flw_43 : lw_tbl[1021]? = some (.codeWith yh_94.1 yh_94.2.1 yh_94.2.2.1 yh_94.2.2.2 hh_94) := by decide +kernel
theorem flw_44 : lw_tbl[1843]? = some (.methodLink fl_own 185 y_237.1) := by decide +kernel
theorem flw_45 : lw_tbl[1844]? = some (.instanceMethod y_237.1) := by decide +kernel
theorem flw_46 : lw_tbl[1845]? = some (.selects y_237.1.cls y_237.1 y_237.1) := by decide +kernel
theorem flw_47 : lw_tbl[1026]? = some (.methodLink fl_own 183 yh_95.1) := by decide +kernel
theorem flw_48 : lw_tbl[1027]? = some (.static yh_95.1) := by decide +kernel
theorem flw_49 : lw_tbl[1028]? = some (.codeWith yh_95.1 yh_95.2.1 yh_95.2.2.1 yh_95.2.2.2 hh_95) := by decide +kernel
theorem flw_50 : lw_tbl[1852]? = some (.methodLink fl_own 188 y_239.1) := by decide +kernel
theorem flw_51 : lw_tbl[1853]? = some (.instanceMethod y_239.1) := by decide +kernel
theorem flw_52 : lw_tbl[1854]? = some (.selects y_239.1.cls y_239.1 y_239.1) := by decide +kernel
theorem flw_53 : lw_tbl[1053]? = some (.methodLink fl_own 186 yh_97.1) := by decide +kernel
theorem flw_54 : lw_tbl[1054]? = some (.static yh_97.1) := by decide +kernel
theorem flw_55 : lw_tbl[1055]? = some (.codeWith yh_97.1 yh_97.2.1 yh_97.2.2.1 yh_97.2.2.2 hh_97) := by decide +kernel
theorem flw_56 : lw_tbl[1857]? = some (.methodLink fl_own 191 y_240.1) := by decide +kernel
theorem flw_57 : lw_tbl[1858]? = some (.instanceMethod y_240.1) := by decide +kernel
theorem flw_58 : lw_tbl[1859]? = some (.selects y_240.1.cls y_240.1 y_240.1) := by decide +kernel
theorem flw_59 : lw_tbl[1060]? = some (.methodLink fl_own 189 yh_98.1) := by decide +kernel
theorem flw_60 : lw_tbl[1061]? = some (.static yh_98.1) := by decide +kernel
theorem flw_61 : lw_tbl[1062]? = some (.codeWith yh_98.1 yh_98.2.1 yh_98.2.2.1 yh_98.2.2.2 hh_98) := by decide +kernel
theorem flw_62 : lw_tbl[1946]? = some (.methodLink fl_own 195 y_262.1) := by decide +kernel
theorem flw_63 : lw_tbl[1947]? = some (.instanceMethod y_262.1) := by decide +kernel
theorem flw_64 : lw_tbl[1948]? = some (.selects y_262.1.cls y_262.1 y_262.1) := by decide +kernel
theorem flw_65 : lw_tbl[1067]? = some (.methodLink fl_own 192 yh_99.1) := by decide +kernel
theorem flw_66 : lw_tbl[1068]? = some (.static yh_99.1) := by decide +kernel
theorem flw_67 : lw_tbl[1069]? = some (.codeWith yh_99.1 yh_99.2.1 yh_99.2.2.1 yh_99.2.2.2 hh_99) := by decide +kernel
theorem flw_68 : lw_tbl[1954]? = some (.methodLink fl_own 198 y_264.1) := by decide +kernel
theorem flw_69 : lw_tbl[1955]? = some (.instanceMethod y_264.1) := by decide +kernel
theorem flw_70 : lw_tbl[1956]? = some (.selects y_264.1.cls y_264.1 y_264.1) := by decide +kernel
theorem flw_71 : lw_tbl[1075]? = some (.methodLink fl_own 196 yh_100.1) := by decide +kernel
theorem flw_72 : lw_tbl[1076]? = some (.static yh_100.1) := by decide +kernel
theorem flw_73 : lw_tbl[1077]? = some (.codeWith yh_100.1 yh_100.2.1 yh_100.2.2.1 yh_100.2.2.2 hh_100) := by decide +kernel
theorem flw_74 : lw_tbl[1958]? = some (.methodLink fl_own 201 y_265.1) := by decide +kernel
theorem flw_75 : lw_tbl[1959]? = some (.instanceMethod y_265.1) := by decide +kernel
theorem flw_76 : lw_tbl[1960]? = some (.selects y_265.1.cls y_265.1 y_265.1) := by decide +kernel
theorem flw_77 : lw_tbl[1082]? = some (.methodLink fl_own 199 yh_101.1) := by decide +kernel
theorem flw_78 : lw_tbl[1083]? = some (.static yh_101.1) := by decide +kernel
theorem flw_79 : lw_tbl[1084]? = some (.codeWith yh_101.1 yh_101.2.1 yh_101.2.2.1 yh_101.2.2.2 hh_101) := by decide +kernel
theorem flw_80 : lw_tbl[1996]? = some (.methodLink fl_own 205 y_274.1) := by decide +kernel
theorem flw_81 : lw_tbl[1997]? = some (.instanceMethod y_274.1) := by decide +kernel
theorem flw_82 : lw_tbl[1998]? = some (.selects y_274.1.cls y_274.1 y_274.1) := by decide +kernel
theorem flw_83 : lw_tbl[1089]? = some (.methodLink fl_own 202 yh_102.1) := by decide +kernel
theorem flw_84 : lw_tbl[1090]? = some (.static yh_102.1) := by decide +kernel
theorem flw_85 : lw_tbl[1091]? = some (.codeWith yh_102.1 yh_102.2.1 yh_102.2.2.1 yh_102.2.2.2 hh_102) := by decide +kernel
theorem flw_86 : lw_tbl[2009]? = some (.methodLink fl_own 208 y_277.1) := by decide +kernel
theorem flw_87 : lw_tbl[2010]? = some (.instanceMethod y_277.1) := by decide +kernel
theorem flw_88 : lw_tbl[2011]? = some (.selects y_277.1.cls y_277.1 y_277.1) := by decide +kernel
theorem flw_89 : lw_tbl[1101]? = some (.methodLink fl_own 206 yh_104.1) := by decide +kernel
theorem flw_90 : lw_tbl[1102]? = some (.static yh_104.1) := by decide +kernel
theorem flw_91 : lw_tbl[1103]? = some (.codeWith yh_104.1 yh_104.2.1 yh_104.2.2.1 yh_104.2.2.2 hh_104) := by decide +kernel
theorem flw_92 : lw_tbl[1962]? = some (.methodLink fl_own 211 y_266.1) := by decide +kernel
theorem flw_93 : lw_tbl[1963]? = some (.instanceMethod y_266.1) := by decide +kernel
theorem flw_94 : lw_tbl[1964]? = some (.selects y_266.1.cls y_266.1 y_266.1) := by decide +kernel
theorem flw_95 : lw_tbl[1123]? = some (.methodLink fl_own 209 yh_108.1) := by decide +kernel
theorem flw_96 : lw_tbl[1124]? = some (.static yh_108.1) := by decide +kernel
theorem flw_97 : lw_tbl[1125]? = some (.codeWith yh_108.1 yh_108.2.1 yh_108.2.2.1 yh_108.2.2.2 hh_108) := by decide +kernel
theorem flw_98 : lw_tbl[1905]? = some (.methodLink fl_own 214 y_252.1) := by decide +kernel
theorem flw_99 : lw_tbl[1906]? = some (.instanceMethod y_252.1) := by decide +kernel
theorem flw_100 : lw_tbl[1907]? = some (.selects y_252.1.cls y_252.1 y_252.1) := by decide +kernel
theorem flw_101 : lw_tbl[1135]? = some (.methodLink fl_own 212 yh_110.1) := by decide +kernel
theorem flw_102 : lw_tbl[1136]? = some (.static yh_110.1) := by decide +kernel
theorem flw_103 : lw_tbl[1137]? = some (.codeWith yh_110.1 yh_110.2.1 yh_110.2.2.1 yh_110.2.2.2 hh_110) := by decide +kernel
theorem flw_104 : lw_tbl[1909]? = some (.methodLink fl_own 217 y_253.1) := by decide +kernel
theorem flw_105 : lw_tbl[1910]? = some (.instanceMethod y_253.1) := by decide +kernel
theorem flw_106 : lw_tbl[1911]? = some (.selects y_253.1.cls y_253.1 y_253.1) := by decide +kernel
theorem flw_107 : lw_tbl[1143]? = some (.methodLink fl_own 215 yh_111.1) := by decide +kernel
theorem flw_108 : lw_tbl[1144]? = some (.static yh_111.1) := by decide +kernel
theorem flw_109 : lw_tbl[1145]? = some (.codeWith yh_111.1 yh_111.2.1 yh_111.2.2.1 yh_111.2.2.2 hh_111) := by decide +kernel
theorem flw_110 : lw_tbl[1917]? = some (.methodLink fl_own 220 y_255.1) := by decide +kernel
theorem flw_111 : lw_tbl[1918]? = some (.instanceMethod y_255.1) := by decide +kernel
theorem flw_112 : lw_tbl[1919]? = some (.selects y_255.1.cls y_255.1 y_255.1) := by decide +kernel
theorem flw_113 : lw_tbl[1150]? = some (.methodLink fl_own 218 yh_112.1) := by decide +kernel
theorem flw_114 : lw_tbl[1151]? = some (.static yh_112.1) := by decide +kernel
theorem flw_115 : lw_tbl[1152]? = some (.codeWith yh_112.1 yh_112.2.1 yh_112.2.2.1 yh_112.2.2.2 hh_112) := by decide +kernel
theorem flw_116 : lw_tbl[689]? = some (.methodLink fl_own 221 y_34.1) := by decide +kernel
theorem flw_117 : lw_tbl[690]? = some (.instanceMethod y_34.1) := by decide +kernel
theorem flw_118 : lw_tbl[691]? = some (.selects y_34.1.cls y_34.1 y_34.1) := by decide +kernel
theorem flw_119 : lw_tbl[1921]? = some (.methodLink fl_own 224 y_256.1) := by decide +kernel
theorem flw_120 : lw_tbl[1922]? = some (.instanceMethod y_256.1) := by decide +kernel
theorem flw_121 : lw_tbl[1923]? = some (.selects y_256.1.cls y_256.1 y_256.1) := by decide +kernel
theorem flw_122 : lw_tbl[1913]? = some (.methodLink fl_own 227 y_254.1) := by decide +kernel
theorem flw_123 : lw_tbl[1914]? = some (.instanceMethod y_254.1) := by decide +kernel
theorem flw_124 : lw_tbl[1915]? = some (.selects y_254.1.cls y_254.1 y_254.1) := by decide +kernel
theorem flw_125 : lw_tbl[1158]? = some (.methodLink fl_own 225 yh_113.1) := by decide +kernel
theorem flw_126 : lw_tbl[1159]? = some (.static yh_113.1) := by decide +kernel
theorem flw_127 : lw_tbl[1160]? = some (.codeWith yh_113.1 yh_113.2.1 yh_113.2.2.1 yh_113.2.2.2 hh_113) := by decide +kernel
theorem flw_128 : lw_tbl[1592]? = some (.methodLink fl_own 230 y_175.1) := by decide +kernel
theorem flw_129 : lw_tbl[1593]? = some (.instanceMethod y_175.1) := by decide +kernel
theorem flw_130 : lw_tbl[1594]? = some (.selects y_175.1.cls y_175.1 y_175.1) := by decide +kernel
theorem flw_131 : lw_tbl[1165]? = some (.methodLink fl_own 228 yh_114.1) := by decide +kernel
theorem flw_132 : lw_tbl[1166]? = some (.static yh_114.1) := by decide +kernel
theorem flw_133 : lw_tbl[1167]? = some (.codeWith yh_114.1 yh_114.2.1 yh_114.2.2.1 yh_114.2.2.2 hh_114) := by decide +kernel
theorem flw_134 : lw_tbl[703]? = some (.methodLink fl_own 231 y_36.1) := by decide +kernel
theorem flw_135 : lw_tbl[704]? = some (.instanceMethod y_36.1) := by decide +kernel
theorem flw_136 : lw_tbl[705]? = some (.selects y_36.1.cls y_36.1 y_36.1) := by decide +kernel
theorem flw_137 : lw_tbl[1815]? = some (.methodLink fl_own 234 y_230.1) := by decide +kernel
theorem flw_138 : lw_tbl[1816]? = some (.instanceMethod y_230.1) := by decide +kernel
theorem flw_139 : lw_tbl[1817]? = some (.selects y_230.1.cls y_230.1 y_230.1) := by decide +kernel
theorem flw_140 : lw_tbl[1966]? = some (.methodLink fl_own 237 y_267.1) := by decide +kernel
theorem flw_141 : lw_tbl[1967]? = some (.instanceMethod y_267.1) := by decide +kernel
theorem flw_142 : lw_tbl[1968]? = some (.selects y_267.1.cls y_267.1 y_267.1) := by decide +kernel
theorem flw_143 : lw_tbl[1173]? = some (.methodLink fl_own 235 yh_115.1) := by decide +kernel
theorem flw_144 : lw_tbl[1174]? = some (.static yh_115.1) := by decide +kernel
theorem flw_145 : lw_tbl[1175]? = some (.codeWith yh_115.1 yh_115.2.1 yh_115.2.2.1 yh_115.2.2.2 hh_115) := by decide +kernel
theorem flw_146 : lw_tbl[1975]? = some (.methodLink fl_own 240 y_269.1) := by decide +kernel
theorem flw_147 : lw_tbl[1976]? = some (.instanceMethod y_269.1) := by decide +kernel
theorem flw_148 : lw_tbl[1977]? = some (.selects y_269.1.cls y_269.1 y_269.1) := by decide +kernel
theorem flw_149 : lw_tbl[1188]? = some (.methodLink fl_own 238 yh_118.1) := by decide +kernel
theorem flw_150 : lw_tbl[1189]? = some (.static yh_118.1) := by decide +kernel
theorem flw_151 : lw_tbl[1190]? = some (.codeWith yh_118.1 yh_118.2.1 yh_118.2.2.1 yh_118.2.2.2 hh_118) := by decide +kernel
theorem flw_152 : lw_tbl[1987]? = some (.methodLink fl_own 243 y_272.1) := by decide +kernel
theorem flw_153 : lw_tbl[1988]? = some (.instanceMethod y_272.1) := by decide +kernel
theorem flw_154 : lw_tbl[1989]? = some (.selects y_272.1.cls y_272.1 y_272.1) := by decide +kernel
theorem flw_155 : lw_tbl[1195]? = some (.methodLink fl_own 241 yh_119.1) := by decide +kernel
theorem flw_156 : lw_tbl[1196]? = some (.static yh_119.1) := by decide +kernel
theorem flw_157 : lw_tbl[1197]? = some (.codeWith yh_119.1 yh_119.2.1 yh_119.2.2.1 yh_119.2.2.2 hh_119) := by decide +kernel
theorem flw_158 : lw_tbl[1992]? = some (.methodLink fl_own 246 y_273.1) := by decide +kernel
theorem flw_159 : lw_tbl[1993]? = some (.instanceMethod y_273.1) := by decide +kernel
theorem flw_160 : lw_tbl[1994]? = some (.selects y_273.1.cls y_273.1 y_273.1) := by decide +kernel
theorem flw_161 : lw_tbl[1206]? = some (.methodLink fl_own 244 yh_121.1) := by decide +kernel
theorem flw_162 : lw_tbl[1207]? = some (.static yh_121.1) := by decide +kernel
theorem flw_163 : lw_tbl[1208]? = some (.codeWith yh_121.1 yh_121.2.1 yh_121.2.2.1 yh_121.2.2.2 hh_121) := by decide +kernel
theorem flw_164 : lw_tbl[1861]? = some (.methodLink fl_own 249 y_241.1) := by decide +kernel
theorem flw_165 : lw_tbl[1862]? = some (.instanceMethod y_241.1) := by decide +kernel
theorem flw_166 : lw_tbl[1863]? = some (.selects y_241.1.cls y_241.1 y_241.1) := by decide +kernel
theorem flw_167 : lw_tbl[1213]? = some (.methodLink fl_own 247 yh_122.1) := by decide +kernel
theorem flw_168 : lw_tbl[1214]? = some (.static yh_122.1) := by decide +kernel
theorem flw_169 : lw_tbl[1215]? = some (.codeWith yh_122.1 yh_122.2.1 yh_122.2.2.1 yh_122.2.2.2 hh_122) := by decide +kernel
theorem flw_170 : lw_tbl[1929]? = some (.methodLink fl_own 252 y_258.1) := by decide +kernel
theorem flw_171 : lw_tbl[1930]? = some (.instanceMethod y_258.1) := by decide +kernel
theorem flw_172 : lw_tbl[1931]? = some (.selects y_258.1.cls y_258.1 y_258.1) := by decide +kernel
theorem flw_173 : lw_tbl[1220]? = some (.methodLink fl_own 250 yh_123.1) := by decide +kernel
theorem flw_174 : lw_tbl[1221]? = some (.static yh_123.1) := by decide +kernel
theorem flw_175 : lw_tbl[1222]? = some (.codeWith yh_123.1 yh_123.2.1 yh_123.2.2.1 yh_123.2.2.2 hh_123) := by decide +kernel
theorem flw_176 : lw_tbl[1865]? = some (.methodLink fl_own 255 y_242.1) := by decide +kernel
theorem flw_177 : lw_tbl[1866]? = some (.instanceMethod y_242.1) := by decide +kernel
theorem flw_178 : lw_tbl[1867]? = some (.selects y_242.1.cls y_242.1 y_242.1) := by decide +kernel
theorem flw_179 : lw_tbl[1227]? = some (.methodLink fl_own 253 yh_124.1) := by decide +kernel
theorem flw_180 : lw_tbl[1228]? = some (.static yh_124.1) := by decide +kernel
theorem flw_181 : lw_tbl[1229]? = some (.codeWith yh_124.1 yh_124.2.1 yh_124.2.2.1 yh_124.2.2.2 hh_124) := by decide +kernel
theorem flw_182 : lw_tbl[1869]? = some (.methodLink fl_own 258 y_243.1) := by decide +kernel
theorem flw_183 : lw_tbl[1870]? = some (.instanceMethod y_243.1) := by decide +kernel
theorem flw_184 : lw_tbl[1871]? = some (.selects y_243.1.cls y_243.1 y_243.1) := by decide +kernel
theorem flw_185 : lw_tbl[1234]? = some (.methodLink fl_own 256 yh_125.1) := by decide +kernel
theorem flw_186 : lw_tbl[1235]? = some (.static yh_125.1) := by decide +kernel
theorem flw_187 : lw_tbl[1236]? = some (.codeWith yh_125.1 yh_125.2.1 yh_125.2.2.1 yh_125.2.2.2 hh_125) := by decide +kernel
theorem flw_188 : lw_tbl[1873]? = some (.methodLink fl_own 261 y_244.1) := by decide +kernel
theorem flw_189 : lw_tbl[1874]? = some (.instanceMethod y_244.1) := by decide +kernel
theorem flw_190 : lw_tbl[1875]? = some (.selects y_244.1.cls y_244.1 y_244.1) := by decide +kernel
theorem flw_191 : lw_tbl[1241]? = some (.methodLink fl_own 259 yh_126.1) := by decide +kernel
theorem flw_192 : lw_tbl[1242]? = some (.static yh_126.1) := by decide +kernel
theorem flw_193 : lw_tbl[1243]? = some (.codeWith yh_126.1 yh_126.2.1 yh_126.2.2.1 yh_126.2.2.2 hh_126) := by decide +kernel
theorem flw_194 : lw_tbl[1877]? = some (.methodLink fl_own 264 y_245.1) := by decide +kernel
theorem flw_195 : lw_tbl[1878]? = some (.instanceMethod y_245.1) := by decide +kernel
theorem flw_196 : lw_tbl[1879]? = some (.selects y_245.1.cls y_245.1 y_245.1) := by decide +kernel
theorem flw_197 : lw_tbl[1248]? = some (.methodLink fl_own 262 yh_127.1) := by decide +kernel
theorem flw_198 : lw_tbl[1249]? = some (.static yh_127.1) := by decide +kernel
theorem flw_199 : lw_tbl[1250]? = some (.codeWith yh_127.1 yh_127.2.1 yh_127.2.2.1 yh_127.2.2.2 hh_127) := by decide +kernel
theorem flw_200 : lw_tbl[1881]? = some (.methodLink fl_own 267 y_246.1) := by decide +kernel
theorem flw_201 : lw_tbl[1882]? = some (.instanceMethod y_246.1) := by decide +kernel
theorem flw_202 : lw_tbl[1883]? = some (.selects y_246.1.cls y_246.1 y_246.1) := by decide +kernel
theorem flw_203 : lw_tbl[1256]? = some (.methodLink fl_own 265 yh_128.1) := by decide +kernel
theorem flw_204 : lw_tbl[1257]? = some (.static yh_128.1) := by decide +kernel
theorem flw_205 : lw_tbl[1258]? = some (.codeWith yh_128.1 yh_128.2.1 yh_128.2.2.1 yh_128.2.2.2 hh_128) := by decide +kernel
theorem flw_206 : lw_tbl[1885]? = some (.methodLink fl_own 270 y_247.1) := by decide +kernel
theorem flw_207 : lw_tbl[1886]? = some (.instanceMethod y_247.1) := by decide +kernel
theorem flw_208 : lw_tbl[1887]? = some (.selects y_247.1.cls y_247.1 y_247.1) := by decide +kernel
theorem flw_209 : lw_tbl[1263]? = some (.methodLink fl_own 268 yh_129.1) := by decide +kernel
theorem flw_210 : lw_tbl[1264]? = some (.static yh_129.1) := by decide +kernel
theorem flw_211 : lw_tbl[1265]? = some (.codeWith yh_129.1 yh_129.2.1 yh_129.2.2.1 yh_129.2.2.2 hh_129) := by decide +kernel
theorem flw_212 : lw_tbl[1889]? = some (.methodLink fl_own 273 y_248.1) := by decide +kernel
theorem flw_213 : lw_tbl[1890]? = some (.instanceMethod y_248.1) := by decide +kernel
theorem flw_214 : lw_tbl[1891]? = some (.selects y_248.1.cls y_248.1 y_248.1) := by decide +kernel
theorem flw_215 : lw_tbl[1270]? = some (.methodLink fl_own 271 yh_130.1) := by decide +kernel
theorem flw_216 : lw_tbl[1271]? = some (.static yh_130.1) := by decide +kernel
theorem flw_217 : lw_tbl[1272]? = some (.codeWith yh_130.1 yh_130.2.1 yh_130.2.2.1 yh_130.2.2.2 hh_130) := by decide +kernel
theorem flw_218 : lw_tbl[1893]? = some (.methodLink fl_own 276 y_249.1) := by decide +kernel
theorem flw_219 : lw_tbl[1894]? = some (.instanceMethod y_249.1) := by decide +kernel
theorem flw_220 : lw_tbl[1895]? = some (.selects y_249.1.cls y_249.1 y_249.1) := by decide +kernel
theorem flw_221 : lw_tbl[1278]? = some (.methodLink fl_own 274 yh_131.1) := by decide +kernel
theorem flw_222 : lw_tbl[1279]? = some (.static yh_131.1) := by decide +kernel
theorem flw_223 : lw_tbl[1280]? = some (.codeWith yh_131.1 yh_131.2.1 yh_131.2.2.1 yh_131.2.2.2 hh_131) := by decide +kernel
theorem flw_224 : lw_tbl[1897]? = some (.methodLink fl_own 279 y_250.1) := by decide +kernel
theorem flw_225 : lw_tbl[1898]? = some (.instanceMethod y_250.1) := by decide +kernel
theorem flw_226 : lw_tbl[1899]? = some (.selects y_250.1.cls y_250.1 y_250.1) := by decide +kernel
theorem flw_227 : lw_tbl[1285]? = some (.methodLink fl_own 277 yh_132.1) := by decide +kernel
theorem flw_228 : lw_tbl[1286]? = some (.static yh_132.1) := by decide +kernel
theorem flw_229 : lw_tbl[1287]? = some (.codeWith yh_132.1 yh_132.2.1 yh_132.2.2.1 yh_132.2.2.2 hh_132) := by decide +kernel
theorem flw_230 : lw_tbl[1901]? = some (.methodLink fl_own 282 y_251.1) := by decide +kernel
theorem flw_231 : lw_tbl[1902]? = some (.instanceMethod y_251.1) := by decide +kernel
theorem flw_232 : lw_tbl[1903]? = some (.selects y_251.1.cls y_251.1 y_251.1) := by decide +kernel
theorem flw_233 : lw_tbl[1292]? = some (.methodLink fl_own 280 yh_133.1) := by decide +kernel
theorem flw_234 : lw_tbl[1293]? = some (.static yh_133.1) := by decide +kernel
theorem flw_235 : lw_tbl[1294]? = some (.codeWith yh_133.1 yh_133.2.1 yh_133.2.2.1 yh_133.2.2.2 hh_133) := by decide +kernel
theorem flw_236 : lw_tbl[707]? = some (.methodLink fl_own 283 y_37.1) := by decide +kernel
theorem flw_237 : lw_tbl[708]? = some (.instanceMethod y_37.1) := by decide +kernel
theorem flw_238 : lw_tbl[709]? = some (.selects y_37.1.cls y_37.1 y_37.1) := by decide +kernel
theorem flw_239 : lw_tbl[1937]? = some (.methodLink fl_own 286 y_260.1) := by decide +kernel
theorem flw_240 : lw_tbl[1938]? = some (.instanceMethod y_260.1) := by decide +kernel
theorem flw_241 : lw_tbl[1939]? = some (.selects y_260.1.cls y_260.1 y_260.1) := by decide +kernel
theorem flw_242 : lw_tbl[1941]? = some (.methodLink fl_own 289 y_261.1) := by decide +kernel
theorem flw_243 : lw_tbl[1942]? = some (.instanceMethod y_261.1) := by decide +kernel
theorem flw_244 : lw_tbl[1943]? = some (.selects y_261.1.cls y_261.1 y_261.1) := by decide +kernel
theorem flw_245 : lw_tbl[1299]? = some (.methodLink fl_own 287 yh_134.1) := by decide +kernel
theorem flw_246 : lw_tbl[1300]? = some (.static yh_134.1) := by decide +kernel
theorem flw_247 : lw_tbl[1301]? = some (.codeWith yh_134.1 yh_134.2.1 yh_134.2.2.1 yh_134.2.2.2 hh_134) := by decide +kernel
theorem flw_248 : lw_tbl[2026]? = some (.methodLink fl_own 292 y_281.1) := by decide +kernel
theorem flw_249 : lw_tbl[2027]? = some (.instanceMethod y_281.1) := by decide +kernel
theorem flw_250 : lw_tbl[2028]? = some (.selects y_281.1.cls y_281.1 y_281.1) := by decide +kernel
theorem flw_251 : lw_tbl[1311]? = some (.methodLink fl_own 290 yh_136.1) := by decide +kernel
theorem flw_252 : lw_tbl[1312]? = some (.static yh_136.1) := by decide +kernel
theorem flw_253 : lw_tbl[1313]? = some (.codeWith yh_136.1 yh_136.2.1 yh_136.2.2.1 yh_136.2.2.2 hh_136) := by decide +kernel
theorem flw_254 : lw_tbl[2030]? = some (.methodLink fl_own 295 y_282.1) := by decide +kernel
theorem flw_255 : lw_tbl[2031]? = some (.instanceMethod y_282.1) := by decide +kernel
theorem flw_256 : lw_tbl[2032]? = some (.selects y_282.1.cls y_282.1 y_282.1) := by decide +kernel
theorem flw_257 : lw_tbl[1318]? = some (.methodLink fl_own 293 yh_137.1) := by decide +kernel
theorem flw_258 : lw_tbl[1319]? = some (.static yh_137.1) := by decide +kernel
theorem flw_259 : lw_tbl[1320]? = some (.codeWith yh_137.1 yh_137.2.1 yh_137.2.2.1 yh_137.2.2.2 hh_137) := by decide +kernel
theorem flw_260 : lw_tbl[716]? = some (.methodLink fl_own 296 y_39.1) := by decide +kernel
theorem flw_261 : lw_tbl[717]? = some (.instanceMethod y_39.1) := by decide +kernel
theorem flw_262 : lw_tbl[718]? = some (.selects y_39.1.cls y_39.1 y_39.1) := by decide +kernel
theorem flw_263 : lw_tbl[2034]? = some (.methodLink fl_own 299 y_283.1) := by decide +kernel
theorem flw_264 : lw_tbl[2035]? = some (.instanceMethod y_283.1) := by decide +kernel
theorem flw_265 : lw_tbl[2036]? = some (.selects y_283.1.cls y_283.1 y_283.1) := by decide +kernel
theorem flw_266 : lw_tbl[726]? = some (.methodLink fl_own 300 y_42.1) := by decide +kernel
theorem flw_267 : lw_tbl[727]? = some (.instanceMethod y_42.1) := by decide +kernel
theorem flw_268 : lw_tbl[728]? = some (.selects y_42.1.cls y_42.1 y_42.1) := by decide +kernel
theorem flw_269 : lw_tbl[2038]? = some (.methodLink fl_own 304 y_284.1) := by decide +kernel
theorem flw_270 : lw_tbl[2039]? = some (.instanceMethod y_284.1) := by decide +kernel
theorem flw_271 : lw_tbl[2040]? = some (.selects y_284.1.cls y_284.1 y_284.1) := by decide +kernel
theorem flw_272 : lw_tbl[2042]? = some (.methodLink fl_own 307 y_285.1) := by decide +kernel
theorem flw_273 : lw_tbl[2043]? = some (.instanceMethod y_285.1) := by decide +kernel
theorem flw_274 : lw_tbl[2044]? = some (.selects y_285.1.cls y_285.1 y_285.1) := by decide +kernel
theorem flw_275 : lw_tbl[1325]? = some (.methodLink fl_own 305 yh_138.1) := by decide +kernel
theorem flw_276 : lw_tbl[1326]? = some (.static yh_138.1) := by decide +kernel
theorem flw_277 : lw_tbl[1327]? = some (.codeWith yh_138.1 yh_138.2.1 yh_138.2.2.1 yh_138.2.2.2 hh_138) := by decide +kernel
theorem flw_278 : lw_tbl[734]? = some (.methodLink fl_own 308 y_44.1) := by decide +kernel
theorem flw_279 : lw_tbl[735]? = some (.instanceMethod y_44.1) := by decide +kernel
theorem flw_280 : lw_tbl[736]? = some (.selects y_44.1.cls y_44.1 y_44.1) := by decide +kernel
theorem flw_281 : lw_tbl[2046]? = some (.methodLink fl_own 311 y_286.1) := by decide +kernel
theorem flw_282 : lw_tbl[2047]? = some (.instanceMethod y_286.1) := by decide +kernel
theorem flw_283 : lw_tbl[2048]? = some (.selects y_286.1.cls y_286.1 y_286.1) := by decide +kernel
theorem flw_284 : lw_tbl[2054]? = some (.methodLink fl_own 314 y_288.1) := by decide +kernel
theorem flw_285 : lw_tbl[2055]? = some (.instanceMethod y_288.1) := by decide +kernel
theorem flw_286 : lw_tbl[2056]? = some (.selects y_288.1.cls y_288.1 y_288.1) := by decide +kernel
theorem flw_287 : lw_tbl[1332]? = some (.methodLink fl_own 312 yh_139.1) := by decide +kernel
theorem flw_288 : lw_tbl[1333]? = some (.static yh_139.1) := by decide +kernel
theorem flw_289 : lw_tbl[1334]? = some (.codeWith yh_139.1 yh_139.2.1 yh_139.2.2.1 yh_139.2.2.2 hh_139) := by decide +kernel
theorem flw_290 : lw_tbl[2058]? = some (.methodLink fl_own 317 y_289.1) := by decide +kernel
theorem flw_291 : lw_tbl[2059]? = some (.instanceMethod y_289.1) := by decide +kernel
theorem flw_292 : lw_tbl[2060]? = some (.selects y_289.1.cls y_289.1 y_289.1) := by decide +kernel
theorem flw_293 : lw_tbl[1339]? = some (.methodLink fl_own 315 yh_140.1) := by decide +kernel
theorem flw_294 : lw_tbl[1340]? = some (.static yh_140.1) := by decide +kernel
theorem flw_295 : lw_tbl[1341]? = some (.codeWith yh_140.1 yh_140.2.1 yh_140.2.2.1 yh_140.2.2.2 hh_140) := by decide +kernel
theorem flw_296 : lw_tbl[927]? = some (.methodLink fl_own 318 y_89.1) := by decide +kernel
theorem flw_297 : lw_tbl[928]? = some (.instanceMethod y_89.1) := by decide +kernel
theorem flw_298 : lw_tbl[929]? = some (.selects y_89.1.cls y_89.1 y_89.1) := by decide +kernel
theorem flw_299 : lw_tbl[2067]? = some (.methodLink fl_own 321 y_291.1) := by decide +kernel
theorem flw_300 : lw_tbl[2068]? = some (.instanceMethod y_291.1) := by decide +kernel
theorem flw_301 : lw_tbl[2069]? = some (.selects y_291.1.cls y_291.1 y_291.1) := by decide +kernel
theorem flw_302 : lw_tbl[2022]? = some (.methodLink fl_own 324 y_280.1) := by decide +kernel
theorem flw_303 : lw_tbl[2023]? = some (.instanceMethod y_280.1) := by decide +kernel
theorem flw_304 : lw_tbl[2024]? = some (.selects y_280.1.cls y_280.1 y_280.1) := by decide +kernel
theorem flw_305 : lw_tbl[1346]? = some (.methodLink fl_own 322 yh_141.1) := by decide +kernel
theorem flw_306 : lw_tbl[1347]? = some (.static yh_141.1) := by decide +kernel
theorem flw_307 : lw_tbl[1348]? = some (.codeWith yh_141.1 yh_141.2.1 yh_141.2.2.1 yh_141.2.2.2 hh_141) := by decide +kernel
theorem flw_308 : lw_tbl[2074]? = some (.methodLink fl_own 327 y_293.1) := by decide +kernel
theorem flw_309 : lw_tbl[2075]? = some (.instanceMethod y_293.1) := by decide +kernel
theorem flw_310 : lw_tbl[2076]? = some (.selects y_293.1.cls y_293.1 y_293.1) := by decide +kernel
theorem flw_311 : lw_tbl[1357]? = some (.methodLink fl_own 325 yh_143.1) := by decide +kernel
theorem flw_312 : lw_tbl[1358]? = some (.static yh_143.1) := by decide +kernel
theorem flw_313 : lw_tbl[1359]? = some (.codeWith yh_143.1 yh_143.2.1 yh_143.2.2.1 yh_143.2.2.2 hh_143) := by decide +kernel
theorem flw_314 : lw_tbl[2086]? = some (.methodLink fl_own 330 y_296.1) := by decide +kernel
theorem flw_315 : lw_tbl[2087]? = some (.instanceMethod y_296.1) := by decide +kernel
theorem flw_316 : lw_tbl[2088]? = some (.selects y_296.1.cls y_296.1 y_296.1) := by decide +kernel
theorem flw_317 : lw_tbl[1364]? = some (.methodLink fl_own 328 yh_144.1) := by decide +kernel
theorem flw_318 : lw_tbl[1365]? = some (.static yh_144.1) := by decide +kernel
theorem flw_319 : lw_tbl[1366]? = some (.codeWith yh_144.1 yh_144.2.1 yh_144.2.2.1 yh_144.2.2.2 hh_144) := by decide +kernel
