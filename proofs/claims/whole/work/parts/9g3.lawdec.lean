/-! THE LAW, 2.3: its rows (by wip/whole/gen9f.py) -/
theorem dl_2312 : decode code 2312 = .ok (.iconst 1, 1) := by decide +kernel
theorem dl_2313 : decode code 2313 = .ok (.iadd, 1) := by decide +kernel
theorem dl_2314 : decode code 2314 = .ok (.iaload, 1) := by decide +kernel
theorem dl_2315 : decode code 2315 = .ok (.aload_n 3, 1) := by decide +kernel
theorem dl_2316 : decode code 2316 = .ok (.invokestatic 277, 3) := by decide +kernel
theorem dl_2319 : decode code 2319 = .ok (.istore 5, 2) := by decide +kernel
theorem dl_2321 : decode code 2321 = .ok (.aload_n 2, 1) := by decide +kernel
theorem dl_2322 : decode code 2322 = .ok (.aload_n 0, 1) := by decide +kernel
theorem dl_2323 : decode code 2323 = .ok (.iload 4, 2) := by decide +kernel
theorem dl_2325 : decode code 2325 = .ok (.iconst 1, 1) := by decide +kernel
theorem dl_2326 : decode code 2326 = .ok (.iadd, 1) := by decide +kernel
theorem dl_2327 : decode code 2327 = .ok (.iaload, 1) := by decide +kernel
theorem dl_2328 : decode code 2328 = .ok (.invokevirtual 279, 3) := by decide +kernel
theorem dl_2331 : decode code 2331 = .ok (.istore 6, 2) := by decide +kernel
theorem dl_2333 : decode code 2333 = .ok (.aload_n 2, 1) := by decide +kernel
theorem dl_2334 : decode code 2334 = .ok (.invokevirtual 176, 3) := by decide +kernel
theorem dl_2337 : decode code 2337 = .ok (.iload 5, 2) := by decide +kernel
theorem dl_2339 : decode code 2339 = .ok (.if_icmp .eq (5), 3) := by decide +kernel
theorem dl_2344 : decode code 2344 = .ok (.iload 5, 2) := by decide +kernel
theorem dl_2346 : decode code 2346 = .ok (.ifCond .ne (15), 3) := by decide +kernel
theorem dl_2349 : decode code 2349 = .ok (.aload_n 3, 1) := by decide +kernel
theorem dl_2350 : decode code 2350 = .ok (.iconst 0, 1) := by decide +kernel
theorem dl_2351 : decode code 2351 = .ok (.laload, 1) := by decide +kernel
theorem dl_2352 : decode code 2352 = .ok (.iload 6, 2) := by decide +kernel
theorem dl_2354 : decode code 2354 = .ok (.i2l, 1) := by decide +kernel
theorem dl_2355 : decode code 2355 = .ok (.lcmp, 1) := by decide +kernel
theorem dl_2356 : decode code 2356 = .ok (.ifCond .eq (5), 3) := by decide +kernel
theorem dl_2361 : decode code 2361 = .ok (.goto (664), 3) := by decide +kernel
theorem dl_2364 : decode code 2364 = .ok (.aload_n 1, 1) := by decide +kernel
theorem dl_2365 : decode code 2365 = .ok (.aload_n 0, 1) := by decide +kernel
theorem dl_2366 : decode code 2366 = .ok (.iload 4, 2) := by decide +kernel
theorem dl_2368 : decode code 2368 = .ok (.iconst 1, 1) := by decide +kernel
theorem dl_2369 : decode code 2369 = .ok (.iadd, 1) := by decide +kernel
theorem dl_2370 : decode code 2370 = .ok (.iaload, 1) := by decide +kernel
theorem dl_2371 : decode code 2371 = .ok (.aload_n 3, 1) := by decide +kernel
theorem dl_2372 : decode code 2372 = .ok (.invokestatic 280, 3) := by decide +kernel
theorem dl_2375 : decode code 2375 = .ok (.istore 5, 2) := by decide +kernel
theorem dl_2377 : decode code 2377 = .ok (.aload_n 2, 1) := by decide +kernel
theorem dl_2378 : decode code 2378 = .ok (.aload_n 0, 1) := by decide +kernel
theorem dl_2379 : decode code 2379 = .ok (.iload 4, 2) := by decide +kernel
theorem dl_2381 : decode code 2381 = .ok (.iconst 1, 1) := by decide +kernel
theorem dl_2382 : decode code 2382 = .ok (.iadd, 1) := by decide +kernel
theorem dl_2383 : decode code 2383 = .ok (.iaload, 1) := by decide +kernel
theorem dl_2384 : decode code 2384 = .ok (.invokevirtual 282, 3) := by decide +kernel
theorem dl_2387 : decode code 2387 = .ok (.istore 6, 2) := by decide +kernel
theorem dl_2389 : decode code 2389 = .ok (.aload_n 2, 1) := by decide +kernel
theorem dl_2390 : decode code 2390 = .ok (.invokevirtual 176, 3) := by decide +kernel
theorem dl_2393 : decode code 2393 = .ok (.iload 5, 2) := by decide +kernel
theorem dl_2395 : decode code 2395 = .ok (.if_icmp .eq (5), 3) := by decide +kernel
theorem dl_2400 : decode code 2400 = .ok (.iload 5, 2) := by decide +kernel
theorem dl_2402 : decode code 2402 = .ok (.ifCond .ne (15), 3) := by decide +kernel
theorem dl_2405 : decode code 2405 = .ok (.aload_n 3, 1) := by decide +kernel
theorem dl_2406 : decode code 2406 = .ok (.iconst 0, 1) := by decide +kernel
theorem dl_2407 : decode code 2407 = .ok (.laload, 1) := by decide +kernel
theorem dl_2408 : decode code 2408 = .ok (.iload 6, 2) := by decide +kernel
theorem dl_2410 : decode code 2410 = .ok (.i2l, 1) := by decide +kernel
theorem dl_2411 : decode code 2411 = .ok (.lcmp, 1) := by decide +kernel
theorem dl_2412 : decode code 2412 = .ok (.ifCond .eq (5), 3) := by decide +kernel
theorem dl_2417 : decode code 2417 = .ok (.goto (608), 3) := by decide +kernel
theorem dl_2420 : decode code 2420 = .ok (.aload_n 1, 1) := by decide +kernel
theorem dl_2421 : decode code 2421 = .ok (.invokevirtual 283, 3) := by decide +kernel
theorem dl_2424 : decode code 2424 = .ok (.aload_n 2, 1) := by decide +kernel
theorem dl_2425 : decode code 2425 = .ok (.invokevirtual 286, 3) := by decide +kernel
theorem dl_2428 : decode code 2428 = .ok (.if_icmp .eq (597), 3) := by decide +kernel
theorem dl_2433 : decode code 2433 = .ok (.aload_n 1, 1) := by decide +kernel
theorem dl_2434 : decode code 2434 = .ok (.aload_n 0, 1) := by decide +kernel
theorem dl_2435 : decode code 2435 = .ok (.iload 4, 2) := by decide +kernel
theorem dl_2437 : decode code 2437 = .ok (.iconst 1, 1) := by decide +kernel
theorem dl_2438 : decode code 2438 = .ok (.iadd, 1) := by decide +kernel
theorem dl_2439 : decode code 2439 = .ok (.iaload, 1) := by decide +kernel
theorem dl_2440 : decode code 2440 = .ok (.aload_n 0, 1) := by decide +kernel
theorem dl_2441 : decode code 2441 = .ok (.iload 4, 2) := by decide +kernel
theorem dl_2443 : decode code 2443 = .ok (.iconst 2, 1) := by decide +kernel
theorem dl_2444 : decode code 2444 = .ok (.iadd, 1) := by decide +kernel
theorem dl_2445 : decode code 2445 = .ok (.iaload, 1) := by decide +kernel
theorem dl_2446 : decode code 2446 = .ok (.aload_n 3, 1) := by decide +kernel
theorem dl_2447 : decode code 2447 = .ok (.invokestatic 287, 3) := by decide +kernel
theorem dl_2450 : decode code 2450 = .ok (.istore 5, 2) := by decide +kernel
theorem dl_2452 : decode code 2452 = .ok (.aload_n 2, 1) := by decide +kernel
theorem dl_2453 : decode code 2453 = .ok (.aload_n 0, 1) := by decide +kernel
theorem dl_2454 : decode code 2454 = .ok (.iload 4, 2) := by decide +kernel
theorem dl_2456 : decode code 2456 = .ok (.iconst 1, 1) := by decide +kernel
theorem dl_2457 : decode code 2457 = .ok (.iadd, 1) := by decide +kernel
theorem dl_2458 : decode code 2458 = .ok (.iaload, 1) := by decide +kernel
theorem dl_2459 : decode code 2459 = .ok (.aload_n 0, 1) := by decide +kernel
theorem dl_2460 : decode code 2460 = .ok (.iload 4, 2) := by decide +kernel
theorem dl_2462 : decode code 2462 = .ok (.iconst 2, 1) := by decide +kernel
theorem dl_2463 : decode code 2463 = .ok (.iadd, 1) := by decide +kernel
theorem dl_2464 : decode code 2464 = .ok (.iaload, 1) := by decide +kernel
theorem dl_2465 : decode code 2465 = .ok (.invokevirtual 289, 3) := by decide +kernel
theorem dl_2468 : decode code 2468 = .ok (.istore 6, 2) := by decide +kernel
theorem dl_2470 : decode code 2470 = .ok (.aload_n 2, 1) := by decide +kernel
theorem dl_2471 : decode code 2471 = .ok (.invokevirtual 176, 3) := by decide +kernel
theorem dl_2474 : decode code 2474 = .ok (.iload 5, 2) := by decide +kernel
theorem dl_2476 : decode code 2476 = .ok (.if_icmp .eq (5), 3) := by decide +kernel
theorem dl_2481 : decode code 2481 = .ok (.iload 5, 2) := by decide +kernel
theorem dl_2483 : decode code 2483 = .ok (.ifCond .ne (15), 3) := by decide +kernel
theorem dl_2486 : decode code 2486 = .ok (.aload_n 3, 1) := by decide +kernel
theorem dl_2487 : decode code 2487 = .ok (.iconst 0, 1) := by decide +kernel
theorem dl_2488 : decode code 2488 = .ok (.laload, 1) := by decide +kernel
theorem dl_2489 : decode code 2489 = .ok (.iload 6, 2) := by decide +kernel
theorem dl_2491 : decode code 2491 = .ok (.i2l, 1) := by decide +kernel
theorem dl_2492 : decode code 2492 = .ok (.lcmp, 1) := by decide +kernel
theorem dl_2493 : decode code 2493 = .ok (.ifCond .eq (5), 3) := by decide +kernel
theorem dl_2498 : decode code 2498 = .ok (.goto (527), 3) := by decide +kernel
theorem dl_2501 : decode code 2501 = .ok (.aload_n 1, 1) := by decide +kernel
theorem dl_2502 : decode code 2502 = .ok (.aload_n 0, 1) := by decide +kernel
theorem dl_2503 : decode code 2503 = .ok (.iload 4, 2) := by decide +kernel
theorem dl_2505 : decode code 2505 = .ok (.iconst 1, 1) := by decide +kernel
theorem dl_2506 : decode code 2506 = .ok (.iadd, 1) := by decide +kernel
theorem dl_2507 : decode code 2507 = .ok (.iaload, 1) := by decide +kernel
theorem dl_2508 : decode code 2508 = .ok (.aload_n 3, 1) := by decide +kernel
theorem dl_2509 : decode code 2509 = .ok (.invokestatic 290, 3) := by decide +kernel
theorem dl_2512 : decode code 2512 = .ok (.istore 5, 2) := by decide +kernel
theorem dl_2514 : decode code 2514 = .ok (.aload_n 2, 1) := by decide +kernel
theorem dl_2515 : decode code 2515 = .ok (.aload_n 0, 1) := by decide +kernel
theorem dl_2516 : decode code 2516 = .ok (.iload 4, 2) := by decide +kernel
theorem dl_2518 : decode code 2518 = .ok (.iconst 1, 1) := by decide +kernel
theorem dl_2519 : decode code 2519 = .ok (.iadd, 1) := by decide +kernel
theorem dl_2520 : decode code 2520 = .ok (.iaload, 1) := by decide +kernel
theorem dl_2521 : decode code 2521 = .ok (.invokevirtual 292, 3) := by decide +kernel
theorem dl_2524 : decode code 2524 = .ok (.istore 6, 2) := by decide +kernel
theorem dl_2526 : decode code 2526 = .ok (.aload_n 2, 1) := by decide +kernel
theorem dl_2527 : decode code 2527 = .ok (.invokevirtual 176, 3) := by decide +kernel
theorem dl_2530 : decode code 2530 = .ok (.iload 5, 2) := by decide +kernel
theorem dl_2532 : decode code 2532 = .ok (.if_icmp .eq (5), 3) := by decide +kernel
theorem dl_2537 : decode code 2537 = .ok (.iload 5, 2) := by decide +kernel
theorem dl_2539 : decode code 2539 = .ok (.ifCond .ne (15), 3) := by decide +kernel
theorem dl_2542 : decode code 2542 = .ok (.aload_n 3, 1) := by decide +kernel
theorem dl_2543 : decode code 2543 = .ok (.iconst 0, 1) := by decide +kernel
theorem dl_2544 : decode code 2544 = .ok (.laload, 1) := by decide +kernel
theorem dl_2545 : decode code 2545 = .ok (.iload 6, 2) := by decide +kernel
theorem dl_2547 : decode code 2547 = .ok (.i2l, 1) := by decide +kernel
theorem dl_2548 : decode code 2548 = .ok (.lcmp, 1) := by decide +kernel
theorem dl_2549 : decode code 2549 = .ok (.ifCond .eq (5), 3) := by decide +kernel
theorem dl_2554 : decode code 2554 = .ok (.goto (471), 3) := by decide +kernel
theorem dl_2557 : decode code 2557 = .ok (.aload_n 1, 1) := by decide +kernel
theorem dl_2558 : decode code 2558 = .ok (.aload_n 0, 1) := by decide +kernel
theorem dl_2559 : decode code 2559 = .ok (.iload 4, 2) := by decide +kernel
theorem dl_2561 : decode code 2561 = .ok (.iconst 1, 1) := by decide +kernel
theorem dl_2562 : decode code 2562 = .ok (.iadd, 1) := by decide +kernel
theorem dl_2563 : decode code 2563 = .ok (.iaload, 1) := by decide +kernel
theorem dl_2564 : decode code 2564 = .ok (.aload_n 3, 1) := by decide +kernel
theorem dl_2565 : decode code 2565 = .ok (.invokestatic 293, 3) := by decide +kernel
theorem dl_2568 : decode code 2568 = .ok (.istore 5, 2) := by decide +kernel
theorem dl_2570 : decode code 2570 = .ok (.aload_n 2, 1) := by decide +kernel
theorem dl_2571 : decode code 2571 = .ok (.aload_n 0, 1) := by decide +kernel
theorem dl_2572 : decode code 2572 = .ok (.iload 4, 2) := by decide +kernel
theorem dl_2574 : decode code 2574 = .ok (.iconst 1, 1) := by decide +kernel
theorem dl_2575 : decode code 2575 = .ok (.iadd, 1) := by decide +kernel
theorem dl_2576 : decode code 2576 = .ok (.iaload, 1) := by decide +kernel
theorem dl_2577 : decode code 2577 = .ok (.invokevirtual 295, 3) := by decide +kernel
theorem dl_2580 : decode code 2580 = .ok (.istore 6, 2) := by decide +kernel
theorem dl_2582 : decode code 2582 = .ok (.aload_n 2, 1) := by decide +kernel
theorem dl_2583 : decode code 2583 = .ok (.invokevirtual 176, 3) := by decide +kernel
theorem dl_2586 : decode code 2586 = .ok (.iload 5, 2) := by decide +kernel
theorem dl_2588 : decode code 2588 = .ok (.if_icmp .eq (5), 3) := by decide +kernel
theorem dl_2593 : decode code 2593 = .ok (.iload 5, 2) := by decide +kernel
theorem dl_2595 : decode code 2595 = .ok (.ifCond .ne (15), 3) := by decide +kernel
theorem dl_2598 : decode code 2598 = .ok (.aload_n 3, 1) := by decide +kernel
theorem dl_2599 : decode code 2599 = .ok (.iconst 0, 1) := by decide +kernel
theorem dl_2600 : decode code 2600 = .ok (.laload, 1) := by decide +kernel
theorem dl_2601 : decode code 2601 = .ok (.iload 6, 2) := by decide +kernel
theorem dl_2603 : decode code 2603 = .ok (.i2l, 1) := by decide +kernel
theorem dl_2604 : decode code 2604 = .ok (.lcmp, 1) := by decide +kernel
theorem dl_2605 : decode code 2605 = .ok (.ifCond .eq (5), 3) := by decide +kernel
theorem dl_2610 : decode code 2610 = .ok (.goto (415), 3) := by decide +kernel
theorem dl_2613 : decode code 2613 = .ok (.aload_n 1, 1) := by decide +kernel
theorem dl_2614 : decode code 2614 = .ok (.invokevirtual 296, 3) := by decide +kernel
theorem dl_2617 : decode code 2617 = .ok (.aload_n 2, 1) := by decide +kernel
theorem dl_2618 : decode code 2618 = .ok (.invokevirtual 299, 3) := by decide +kernel
theorem dl_2621 : decode code 2621 = .ok (.if_icmp .eq (404), 3) := by decide +kernel
theorem dl_2626 : decode code 2626 = .ok (.aload_n 1, 1) := by decide +kernel
theorem dl_2627 : decode code 2627 = .ok (.invokevirtual 300, 3) := by decide +kernel
theorem dl_2630 : decode code 2630 = .ok (.aload_n 2, 1) := by decide +kernel
theorem dl_2631 : decode code 2631 = .ok (.invokevirtual 304, 3) := by decide +kernel
theorem dl_2634 : decode code 2634 = .ok (.if_icmp .eq (391), 3) := by decide +kernel
theorem dl_2639 : decode code 2639 = .ok (.aload_n 1, 1) := by decide +kernel
theorem dl_2640 : decode code 2640 = .ok (.aload_n 0, 1) := by decide +kernel
theorem dl_2641 : decode code 2641 = .ok (.iload 4, 2) := by decide +kernel
theorem dl_2643 : decode code 2643 = .ok (.iconst 1, 1) := by decide +kernel
theorem dl_2644 : decode code 2644 = .ok (.iadd, 1) := by decide +kernel
theorem dl_2645 : decode code 2645 = .ok (.iaload, 1) := by decide +kernel
theorem dl_2646 : decode code 2646 = .ok (.aload_n 3, 1) := by decide +kernel
theorem dl_2647 : decode code 2647 = .ok (.invokestatic 305, 3) := by decide +kernel
theorem dl_2650 : decode code 2650 = .ok (.istore 5, 2) := by decide +kernel
theorem dl_2652 : decode code 2652 = .ok (.aload_n 2, 1) := by decide +kernel
theorem dl_2653 : decode code 2653 = .ok (.aload_n 0, 1) := by decide +kernel
theorem dl_2654 : decode code 2654 = .ok (.iload 4, 2) := by decide +kernel
theorem dl_2656 : decode code 2656 = .ok (.iconst 1, 1) := by decide +kernel
theorem dl_2657 : decode code 2657 = .ok (.iadd, 1) := by decide +kernel
theorem dl_2658 : decode code 2658 = .ok (.iaload, 1) := by decide +kernel
theorem dl_2659 : decode code 2659 = .ok (.invokevirtual 307, 3) := by decide +kernel
theorem dl_2662 : decode code 2662 = .ok (.istore 6, 2) := by decide +kernel
theorem dl_2664 : decode code 2664 = .ok (.aload_n 2, 1) := by decide +kernel
theorem dl_2665 : decode code 2665 = .ok (.invokevirtual 176, 3) := by decide +kernel
theorem dl_2668 : decode code 2668 = .ok (.iload 5, 2) := by decide +kernel
theorem dl_2670 : decode code 2670 = .ok (.if_icmp .eq (5), 3) := by decide +kernel
theorem dl_2675 : decode code 2675 = .ok (.iload 5, 2) := by decide +kernel
theorem dl_2677 : decode code 2677 = .ok (.ifCond .ne (15), 3) := by decide +kernel
theorem dl_2680 : decode code 2680 = .ok (.aload_n 3, 1) := by decide +kernel
theorem dl_2681 : decode code 2681 = .ok (.iconst 0, 1) := by decide +kernel
theorem dl_2682 : decode code 2682 = .ok (.laload, 1) := by decide +kernel
theorem dl_2683 : decode code 2683 = .ok (.iload 6, 2) := by decide +kernel
theorem dl_2685 : decode code 2685 = .ok (.i2l, 1) := by decide +kernel
theorem dl_2686 : decode code 2686 = .ok (.lcmp, 1) := by decide +kernel
theorem dl_2687 : decode code 2687 = .ok (.ifCond .eq (5), 3) := by decide +kernel
theorem dl_2692 : decode code 2692 = .ok (.goto (333), 3) := by decide +kernel
theorem dl_2695 : decode code 2695 = .ok (.aload_n 1, 1) := by decide +kernel
theorem dl_2696 : decode code 2696 = .ok (.invokevirtual 308, 3) := by decide +kernel
theorem dl_2699 : decode code 2699 = .ok (.aload_n 2, 1) := by decide +kernel
theorem dl_2700 : decode code 2700 = .ok (.invokevirtual 311, 3) := by decide +kernel
theorem dl_2703 : decode code 2703 = .ok (.if_icmp .eq (322), 3) := by decide +kernel
theorem dl_2708 : decode code 2708 = .ok (.aload_n 1, 1) := by decide +kernel
theorem dl_2709 : decode code 2709 = .ok (.aload_n 0, 1) := by decide +kernel
theorem dl_2710 : decode code 2710 = .ok (.iload 4, 2) := by decide +kernel
theorem dl_2712 : decode code 2712 = .ok (.iconst 1, 1) := by decide +kernel
theorem dl_2713 : decode code 2713 = .ok (.iadd, 1) := by decide +kernel
theorem dl_2714 : decode code 2714 = .ok (.iaload, 1) := by decide +kernel
theorem dl_2715 : decode code 2715 = .ok (.aload_n 0, 1) := by decide +kernel
theorem dl_2716 : decode code 2716 = .ok (.iload 4, 2) := by decide +kernel
theorem dl_2718 : decode code 2718 = .ok (.iconst 2, 1) := by decide +kernel
theorem dl_2719 : decode code 2719 = .ok (.iadd, 1) := by decide +kernel
theorem dl_2720 : decode code 2720 = .ok (.iaload, 1) := by decide +kernel
theorem dl_2721 : decode code 2721 = .ok (.aload_n 3, 1) := by decide +kernel
theorem dl_2722 : decode code 2722 = .ok (.invokestatic 312, 3) := by decide +kernel
theorem dl_2725 : decode code 2725 = .ok (.istore 5, 2) := by decide +kernel
theorem dl_2727 : decode code 2727 = .ok (.aload_n 2, 1) := by decide +kernel
theorem dl_2728 : decode code 2728 = .ok (.aload_n 0, 1) := by decide +kernel
theorem dl_2729 : decode code 2729 = .ok (.iload 4, 2) := by decide +kernel
theorem dl_2731 : decode code 2731 = .ok (.iconst 1, 1) := by decide +kernel
theorem dl_2732 : decode code 2732 = .ok (.iadd, 1) := by decide +kernel
theorem dl_2733 : decode code 2733 = .ok (.iaload, 1) := by decide +kernel
theorem dl_2734 : decode code 2734 = .ok (.aload_n 0, 1) := by decide +kernel
theorem dl_2735 : decode code 2735 = .ok (.iload 4, 2) := by decide +kernel
theorem dl_2737 : decode code 2737 = .ok (.iconst 2, 1) := by decide +kernel
theorem dl_2738 : decode code 2738 = .ok (.iadd, 1) := by decide +kernel
theorem dl_2739 : decode code 2739 = .ok (.iaload, 1) := by decide +kernel
theorem dl_2740 : decode code 2740 = .ok (.invokevirtual 314, 3) := by decide +kernel
theorem dl_2743 : decode code 2743 = .ok (.istore 6, 2) := by decide +kernel
theorem dl_2745 : decode code 2745 = .ok (.aload_n 2, 1) := by decide +kernel
theorem dl_2746 : decode code 2746 = .ok (.invokevirtual 176, 3) := by decide +kernel
theorem dl_2749 : decode code 2749 = .ok (.iload 5, 2) := by decide +kernel
theorem dl_2751 : decode code 2751 = .ok (.if_icmp .eq (5), 3) := by decide +kernel
theorem dl_2756 : decode code 2756 = .ok (.iload 5, 2) := by decide +kernel
theorem dl_2758 : decode code 2758 = .ok (.ifCond .ne (15), 3) := by decide +kernel
theorem dl_2761 : decode code 2761 = .ok (.aload_n 3, 1) := by decide +kernel
theorem dl_2762 : decode code 2762 = .ok (.iconst 0, 1) := by decide +kernel
theorem dl_2763 : decode code 2763 = .ok (.laload, 1) := by decide +kernel
theorem dl_2764 : decode code 2764 = .ok (.iload 6, 2) := by decide +kernel
theorem dl_2766 : decode code 2766 = .ok (.i2l, 1) := by decide +kernel
theorem dl_2767 : decode code 2767 = .ok (.lcmp, 1) := by decide +kernel
theorem dl_2768 : decode code 2768 = .ok (.ifCond .eq (5), 3) := by decide +kernel
theorem dl_2773 : decode code 2773 = .ok (.goto (252), 3) := by decide +kernel
theorem dl_2776 : decode code 2776 = .ok (.aload_n 1, 1) := by decide +kernel
theorem dl_2777 : decode code 2777 = .ok (.aload_n 0, 1) := by decide +kernel
theorem dl_2778 : decode code 2778 = .ok (.iload 4, 2) := by decide +kernel
theorem dl_2780 : decode code 2780 = .ok (.iconst 1, 1) := by decide +kernel
theorem dl_2781 : decode code 2781 = .ok (.iadd, 1) := by decide +kernel
theorem dl_2782 : decode code 2782 = .ok (.iaload, 1) := by decide +kernel
theorem dl_2783 : decode code 2783 = .ok (.aload_n 0, 1) := by decide +kernel
theorem dl_2784 : decode code 2784 = .ok (.iload 4, 2) := by decide +kernel
theorem dl_2786 : decode code 2786 = .ok (.iconst 2, 1) := by decide +kernel
theorem dl_2787 : decode code 2787 = .ok (.iadd, 1) := by decide +kernel
theorem dl_2788 : decode code 2788 = .ok (.iaload, 1) := by decide +kernel
theorem dl_2789 : decode code 2789 = .ok (.aload_n 3, 1) := by decide +kernel
theorem dl_2790 : decode code 2790 = .ok (.invokestatic 315, 3) := by decide +kernel
theorem dl_2793 : decode code 2793 = .ok (.istore 5, 2) := by decide +kernel
theorem dl_2795 : decode code 2795 = .ok (.aload_n 2, 1) := by decide +kernel
theorem dl_2796 : decode code 2796 = .ok (.aload_n 0, 1) := by decide +kernel
theorem dl_2797 : decode code 2797 = .ok (.iload 4, 2) := by decide +kernel
theorem dl_2799 : decode code 2799 = .ok (.iconst 1, 1) := by decide +kernel
theorem dl_2800 : decode code 2800 = .ok (.iadd, 1) := by decide +kernel
theorem dl_2801 : decode code 2801 = .ok (.iaload, 1) := by decide +kernel
theorem dl_2802 : decode code 2802 = .ok (.aload_n 0, 1) := by decide +kernel
theorem dl_2803 : decode code 2803 = .ok (.iload 4, 2) := by decide +kernel
theorem dl_2805 : decode code 2805 = .ok (.iconst 2, 1) := by decide +kernel
theorem dl_2806 : decode code 2806 = .ok (.iadd, 1) := by decide +kernel
theorem dl_2807 : decode code 2807 = .ok (.iaload, 1) := by decide +kernel
theorem dl_2808 : decode code 2808 = .ok (.invokevirtual 317, 3) := by decide +kernel
theorem dl_2811 : decode code 2811 = .ok (.istore 6, 2) := by decide +kernel
theorem dl_2813 : decode code 2813 = .ok (.aload_n 2, 1) := by decide +kernel
theorem dl_2814 : decode code 2814 = .ok (.invokevirtual 176, 3) := by decide +kernel
theorem dl_2817 : decode code 2817 = .ok (.iload 5, 2) := by decide +kernel
theorem dl_2819 : decode code 2819 = .ok (.if_icmp .eq (5), 3) := by decide +kernel
theorem dl_2824 : decode code 2824 = .ok (.iload 5, 2) := by decide +kernel
theorem dl_2826 : decode code 2826 = .ok (.ifCond .ne (15), 3) := by decide +kernel
theorem dl_2829 : decode code 2829 = .ok (.aload_n 3, 1) := by decide +kernel
theorem dl_2830 : decode code 2830 = .ok (.iconst 0, 1) := by decide +kernel
theorem dl_2831 : decode code 2831 = .ok (.laload, 1) := by decide +kernel
theorem dl_2832 : decode code 2832 = .ok (.iload 6, 2) := by decide +kernel
theorem dl_2834 : decode code 2834 = .ok (.i2l, 1) := by decide +kernel
theorem dl_2835 : decode code 2835 = .ok (.lcmp, 1) := by decide +kernel
theorem dl_2836 : decode code 2836 = .ok (.ifCond .eq (5), 3) := by decide +kernel
theorem dl_2841 : decode code 2841 = .ok (.goto (184), 3) := by decide +kernel
theorem dl_2844 : decode code 2844 = .ok (.aload_n 1, 1) := by decide +kernel
theorem dl_2845 : decode code 2845 = .ok (.invokevirtual 318, 3) := by decide +kernel
theorem dl_2848 : decode code 2848 = .ok (.aload_n 2, 1) := by decide +kernel
theorem dl_2849 : decode code 2849 = .ok (.invokevirtual 321, 3) := by decide +kernel
theorem dl_2852 : decode code 2852 = .ok (.if_icmp .eq (173), 3) := by decide +kernel
theorem dl_2857 : decode code 2857 = .ok (.aload_n 1, 1) := by decide +kernel
theorem dl_2858 : decode code 2858 = .ok (.aload_n 0, 1) := by decide +kernel
theorem dl_2859 : decode code 2859 = .ok (.iload 4, 2) := by decide +kernel
theorem dl_2861 : decode code 2861 = .ok (.iconst 1, 1) := by decide +kernel
theorem dl_2862 : decode code 2862 = .ok (.iadd, 1) := by decide +kernel
theorem dl_2863 : decode code 2863 = .ok (.iaload, 1) := by decide +kernel
theorem dl_2864 : decode code 2864 = .ok (.aload_n 3, 1) := by decide +kernel
theorem dl_2865 : decode code 2865 = .ok (.invokestatic 322, 3) := by decide +kernel
theorem dl_2868 : decode code 2868 = .ok (.istore 5, 2) := by decide +kernel
theorem dl_2870 : decode code 2870 = .ok (.aload_n 2, 1) := by decide +kernel
theorem dl_2871 : decode code 2871 = .ok (.aload_n 0, 1) := by decide +kernel
theorem dl_2872 : decode code 2872 = .ok (.iload 4, 2) := by decide +kernel
theorem dl_2874 : decode code 2874 = .ok (.iconst 1, 1) := by decide +kernel
theorem dl_2875 : decode code 2875 = .ok (.iadd, 1) := by decide +kernel
theorem dl_2876 : decode code 2876 = .ok (.iaload, 1) := by decide +kernel
theorem dl_2877 : decode code 2877 = .ok (.invokevirtual 324, 3) := by decide +kernel
theorem dl_2880 : decode code 2880 = .ok (.istore 6, 2) := by decide +kernel
theorem dl_2882 : decode code 2882 = .ok (.aload_n 2, 1) := by decide +kernel
theorem dl_2883 : decode code 2883 = .ok (.invokevirtual 176, 3) := by decide +kernel
theorem dl_2886 : decode code 2886 = .ok (.iload 5, 2) := by decide +kernel
theorem dl_2888 : decode code 2888 = .ok (.if_icmp .eq (5), 3) := by decide +kernel
theorem dl_2893 : decode code 2893 = .ok (.iload 5, 2) := by decide +kernel
theorem dl_2895 : decode code 2895 = .ok (.ifCond .ne (15), 3) := by decide +kernel
theorem dl_2898 : decode code 2898 = .ok (.aload_n 3, 1) := by decide +kernel
theorem dl_2899 : decode code 2899 = .ok (.iconst 0, 1) := by decide +kernel
theorem dl_2900 : decode code 2900 = .ok (.laload, 1) := by decide +kernel
theorem dl_2901 : decode code 2901 = .ok (.iload 6, 2) := by decide +kernel
theorem dl_2903 : decode code 2903 = .ok (.i2l, 1) := by decide +kernel
theorem dl_2904 : decode code 2904 = .ok (.lcmp, 1) := by decide +kernel
theorem dl_2905 : decode code 2905 = .ok (.ifCond .eq (5), 3) := by decide +kernel
theorem dl_2910 : decode code 2910 = .ok (.goto (115), 3) := by decide +kernel
theorem dl_2913 : decode code 2913 = .ok (.aload_n 1, 1) := by decide +kernel
theorem dl_2914 : decode code 2914 = .ok (.aload_n 0, 1) := by decide +kernel
theorem dl_2915 : decode code 2915 = .ok (.iload 4, 2) := by decide +kernel
theorem dl_2917 : decode code 2917 = .ok (.iconst 1, 1) := by decide +kernel
theorem dl_2918 : decode code 2918 = .ok (.iadd, 1) := by decide +kernel
theorem dl_2919 : decode code 2919 = .ok (.iaload, 1) := by decide +kernel
theorem dl_2920 : decode code 2920 = .ok (.aload_n 3, 1) := by decide +kernel
theorem dl_2921 : decode code 2921 = .ok (.invokestatic 325, 3) := by decide +kernel
theorem dl_2924 : decode code 2924 = .ok (.istore 5, 2) := by decide +kernel
theorem dl_2926 : decode code 2926 = .ok (.aload_n 2, 1) := by decide +kernel
theorem dl_2927 : decode code 2927 = .ok (.aload_n 0, 1) := by decide +kernel
theorem dl_2928 : decode code 2928 = .ok (.iload 4, 2) := by decide +kernel
theorem dl_2930 : decode code 2930 = .ok (.iconst 1, 1) := by decide +kernel
theorem dl_2931 : decode code 2931 = .ok (.iadd, 1) := by decide +kernel
theorem dl_2932 : decode code 2932 = .ok (.iaload, 1) := by decide +kernel
theorem dl_2933 : decode code 2933 = .ok (.invokevirtual 327, 3) := by decide +kernel
theorem dl_2936 : decode code 2936 = .ok (.istore 6, 2) := by decide +kernel
theorem dl_2938 : decode code 2938 = .ok (.aload_n 2, 1) := by decide +kernel
theorem dl_2939 : decode code 2939 = .ok (.invokevirtual 176, 3) := by decide +kernel
theorem dl_2942 : decode code 2942 = .ok (.iload 5, 2) := by decide +kernel
theorem dl_2944 : decode code 2944 = .ok (.if_icmp .eq (5), 3) := by decide +kernel
theorem dl_2949 : decode code 2949 = .ok (.iload 5, 2) := by decide +kernel
theorem dl_2951 : decode code 2951 = .ok (.ifCond .ne (15), 3) := by decide +kernel
theorem dl_2954 : decode code 2954 = .ok (.aload_n 3, 1) := by decide +kernel
theorem dl_2955 : decode code 2955 = .ok (.iconst 0, 1) := by decide +kernel
theorem dl_2956 : decode code 2956 = .ok (.laload, 1) := by decide +kernel
theorem dl_2957 : decode code 2957 = .ok (.iload 6, 2) := by decide +kernel
theorem dl_2959 : decode code 2959 = .ok (.i2l, 1) := by decide +kernel
theorem dl_2960 : decode code 2960 = .ok (.lcmp, 1) := by decide +kernel
theorem dl_2961 : decode code 2961 = .ok (.ifCond .eq (5), 3) := by decide +kernel
theorem dl_2966 : decode code 2966 = .ok (.goto (59), 3) := by decide +kernel
theorem dl_2969 : decode code 2969 = .ok (.aload_n 1, 1) := by decide +kernel
theorem dl_2970 : decode code 2970 = .ok (.aload_n 0, 1) := by decide +kernel
theorem dl_2971 : decode code 2971 = .ok (.iload 4, 2) := by decide +kernel
theorem dl_2973 : decode code 2973 = .ok (.iconst 1, 1) := by decide +kernel
theorem dl_2974 : decode code 2974 = .ok (.iadd, 1) := by decide +kernel
theorem dl_2975 : decode code 2975 = .ok (.iaload, 1) := by decide +kernel
theorem dl_2976 : decode code 2976 = .ok (.aload_n 3, 1) := by decide +kernel
theorem dl_2977 : decode code 2977 = .ok (.invokestatic 328, 3) := by decide +kernel
theorem dl_2980 : decode code 2980 = .ok (.istore 5, 2) := by decide +kernel
theorem dl_2982 : decode code 2982 = .ok (.aload_n 2, 1) := by decide +kernel
theorem dl_2983 : decode code 2983 = .ok (.aload_n 0, 1) := by decide +kernel
theorem dl_2984 : decode code 2984 = .ok (.iload 4, 2) := by decide +kernel
theorem dl_2986 : decode code 2986 = .ok (.iconst 1, 1) := by decide +kernel
theorem dl_2987 : decode code 2987 = .ok (.iadd, 1) := by decide +kernel
theorem dl_2988 : decode code 2988 = .ok (.iaload, 1) := by decide +kernel
theorem dl_2989 : decode code 2989 = .ok (.invokevirtual 330, 3) := by decide +kernel
theorem dl_2992 : decode code 2992 = .ok (.istore 6, 2) := by decide +kernel
theorem dl_2994 : decode code 2994 = .ok (.aload_n 2, 1) := by decide +kernel
theorem dl_2995 : decode code 2995 = .ok (.invokevirtual 176, 3) := by decide +kernel
theorem dl_2998 : decode code 2998 = .ok (.iload 5, 2) := by decide +kernel
theorem dl_3000 : decode code 3000 = .ok (.if_icmp .eq (5), 3) := by decide +kernel
theorem dl_3005 : decode code 3005 = .ok (.iload 5, 2) := by decide +kernel
theorem dl_3007 : decode code 3007 = .ok (.ifCond .ne (15), 3) := by decide +kernel
theorem dl_3010 : decode code 3010 = .ok (.aload_n 3, 1) := by decide +kernel
theorem dl_3011 : decode code 3011 = .ok (.iconst 0, 1) := by decide +kernel
theorem dl_3012 : decode code 3012 = .ok (.laload, 1) := by decide +kernel
theorem dl_3013 : decode code 3013 = .ok (.iload 6, 2) := by decide +kernel
theorem dl_3015 : decode code 3015 = .ok (.i2l, 1) := by decide +kernel
theorem dl_3016 : decode code 3016 = .ok (.lcmp, 1) := by decide +kernel
theorem dl_3017 : decode code 3017 = .ok (.ifCond .eq (5), 3) := by decide +kernel
theorem dl_3022 : decode code 3022 = .ok (.goto (3), 3) := by decide +kernel
theorem dl_3025 : decode code 3025 = .ok (.iinc 4 4, 3) := by decide +kernel
theorem dl_3028 : decode code 3028 = .ok (.goto (-3005), 3) := by decide +kernel
theorem dl_3031 : decode code 3031 = .ok (.iconst 1, 1) := by decide +kernel
theorem dl_3032 : decode code 3032 = .ok (.ireturn, 1) := by decide +kernel
