theorem dL_law_2453 : decode cL_law 2453 = .ok (.iconst 2, 1) := by decide +kernel
theorem dL_law_2454 : decode cL_law 2454 = .ok (.iadd, 1) := by decide +kernel
theorem dL_law_2455 : decode cL_law 2455 = .ok (.iaload, 1) := by decide +kernel
theorem dL_law_2456 : decode cL_law 2456 = .ok (.i2l, 1) := by decide +kernel
theorem dL_law_2457 : decode cL_law 2457 = .ok (.ldc2_w 158, 3) := by decide +kernel
theorem dL_law_2460 : decode cL_law 2460 = .ok (.land, 1) := by decide +kernel
theorem dL_law_2461 : decode cL_law 2461 = .ok (.lor, 1) := by decide +kernel
theorem dL_law_2462 : decode cL_law 2462 = .ok (.aload_n 0, 1) := by decide +kernel
theorem dL_law_2463 : decode cL_law 2463 = .ok (.iload 4, 2) := by decide +kernel
theorem dL_law_2465 : decode cL_law 2465 = .ok (.iconst 3, 1) := by decide +kernel
theorem dL_law_2466 : decode cL_law 2466 = .ok (.iadd, 1) := by decide +kernel
theorem dL_law_2467 : decode cL_law 2467 = .ok (.iaload, 1) := by decide +kernel
theorem dL_law_2468 : decode cL_law 2468 = .ok (.ifCond .eq 7, 3) := by decide +kernel
theorem dL_law_2471 : decode cL_law 2471 = .ok (.iconst 1, 1) := by decide +kernel
theorem dL_law_2472 : decode cL_law 2472 = .ok (.goto 4, 3) := by decide +kernel
theorem dL_law_2475 : decode cL_law 2475 = .ok (.iconst 0, 1) := by decide +kernel
theorem dL_law_2476 : decode cL_law 2476 = .ok (.aload_n 0, 1) := by decide +kernel
theorem dL_law_2477 : decode cL_law 2477 = .ok (.iload 4, 2) := by decide +kernel
theorem dL_law_2479 : decode cL_law 2479 = .ok (.iconst 4, 1) := by decide +kernel
theorem dL_law_2480 : decode cL_law 2480 = .ok (.iadd, 1) := by decide +kernel
theorem dL_law_2481 : decode cL_law 2481 = .ok (.iaload, 1) := by decide +kernel
theorem dL_law_2482 : decode cL_law 2482 = .ok (.aload_n 3, 1) := by decide +kernel
theorem dL_law_2483 : decode cL_law 2483 = .ok (.invokestatic 259, 3) := by decide +kernel
theorem dL_law_2486 : decode cL_law 2486 = .ok (.istore 5, 2) := by decide +kernel
theorem dL_law_2488 : decode cL_law 2488 = .ok (.aload_n 2, 1) := by decide +kernel
theorem dL_law_2489 : decode cL_law 2489 = .ok (.aload_n 0, 1) := by decide +kernel
theorem dL_law_2490 : decode cL_law 2490 = .ok (.iload 4, 2) := by decide +kernel
theorem dL_law_2492 : decode cL_law 2492 = .ok (.iconst 1, 1) := by decide +kernel
theorem dL_law_2493 : decode cL_law 2493 = .ok (.iadd, 1) := by decide +kernel
theorem dL_law_2494 : decode cL_law 2494 = .ok (.iaload, 1) := by decide +kernel
theorem dL_law_2495 : decode cL_law 2495 = .ok (.i2l, 1) := by decide +kernel
theorem dL_law_2496 : decode cL_law 2496 = .ok (.bipush 32, 2) := by decide +kernel
theorem dL_law_2498 : decode cL_law 2498 = .ok (.lshl, 1) := by decide +kernel
theorem dL_law_2499 : decode cL_law 2499 = .ok (.aload_n 0, 1) := by decide +kernel
theorem dL_law_2500 : decode cL_law 2500 = .ok (.iload 4, 2) := by decide +kernel
theorem dL_law_2502 : decode cL_law 2502 = .ok (.iconst 2, 1) := by decide +kernel
theorem dL_law_2503 : decode cL_law 2503 = .ok (.iadd, 1) := by decide +kernel
theorem dL_law_2504 : decode cL_law 2504 = .ok (.iaload, 1) := by decide +kernel
theorem dL_law_2505 : decode cL_law 2505 = .ok (.i2l, 1) := by decide +kernel
theorem dL_law_2506 : decode cL_law 2506 = .ok (.ldc2_w 158, 3) := by decide +kernel
theorem dL_law_2509 : decode cL_law 2509 = .ok (.land, 1) := by decide +kernel
theorem dL_law_2510 : decode cL_law 2510 = .ok (.lor, 1) := by decide +kernel
theorem dL_law_2511 : decode cL_law 2511 = .ok (.aload_n 0, 1) := by decide +kernel
theorem dL_law_2512 : decode cL_law 2512 = .ok (.iload 4, 2) := by decide +kernel
theorem dL_law_2514 : decode cL_law 2514 = .ok (.iconst 3, 1) := by decide +kernel
theorem dL_law_2515 : decode cL_law 2515 = .ok (.iadd, 1) := by decide +kernel
theorem dL_law_2516 : decode cL_law 2516 = .ok (.iaload, 1) := by decide +kernel
theorem dL_law_2517 : decode cL_law 2517 = .ok (.ifCond .eq 7, 3) := by decide +kernel
theorem dL_law_2520 : decode cL_law 2520 = .ok (.iconst 1, 1) := by decide +kernel
theorem dL_law_2521 : decode cL_law 2521 = .ok (.goto 4, 3) := by decide +kernel
theorem dL_law_2524 : decode cL_law 2524 = .ok (.iconst 0, 1) := by decide +kernel
theorem dL_law_2525 : decode cL_law 2525 = .ok (.aload_n 0, 1) := by decide +kernel
theorem dL_law_2526 : decode cL_law 2526 = .ok (.iload 4, 2) := by decide +kernel
theorem dL_law_2528 : decode cL_law 2528 = .ok (.iconst 4, 1) := by decide +kernel
theorem dL_law_2529 : decode cL_law 2529 = .ok (.iadd, 1) := by decide +kernel
theorem dL_law_2530 : decode cL_law 2530 = .ok (.iaload, 1) := by decide +kernel
theorem dL_law_2531 : decode cL_law 2531 = .ok (.invokevirtual 262, 3) := by decide +kernel
theorem dL_law_2534 : decode cL_law 2534 = .ok (.istore 6, 2) := by decide +kernel
theorem dL_law_2536 : decode cL_law 2536 = .ok (.aload_n 2, 1) := by decide +kernel
theorem dL_law_2537 : decode cL_law 2537 = .ok (.invokevirtual 137, 3) := by decide +kernel
theorem dL_law_2540 : decode cL_law 2540 = .ok (.iload 5, 2) := by decide +kernel
theorem dL_law_2542 : decode cL_law 2542 = .ok (.if_icmp .eq 5, 3) := by decide +kernel
theorem dL_law_2545 : decode cL_law 2545 = .ok (.iconst 0, 1) := by decide +kernel
theorem dL_law_2546 : decode cL_law 2546 = .ok (.ireturn, 1) := by decide +kernel
theorem dL_law_2547 : decode cL_law 2547 = .ok (.iload 5, 2) := by decide +kernel
theorem dL_law_2549 : decode cL_law 2549 = .ok (.ifCond .ne 15, 3) := by decide +kernel
theorem dL_law_2552 : decode cL_law 2552 = .ok (.aload_n 3, 1) := by decide +kernel
theorem dL_law_2553 : decode cL_law 2553 = .ok (.iconst 0, 1) := by decide +kernel
theorem dL_law_2554 : decode cL_law 2554 = .ok (.laload, 1) := by decide +kernel
theorem dL_law_2555 : decode cL_law 2555 = .ok (.iload 6, 2) := by decide +kernel
theorem dL_law_2557 : decode cL_law 2557 = .ok (.i2l, 1) := by decide +kernel
theorem dL_law_2558 : decode cL_law 2558 = .ok (.lcmp, 1) := by decide +kernel
theorem dL_law_2559 : decode cL_law 2559 = .ok (.ifCond .eq 5, 3) := by decide +kernel
theorem dL_law_2562 : decode cL_law 2562 = .ok (.iconst 0, 1) := by decide +kernel
theorem dL_law_2563 : decode cL_law 2563 = .ok (.ireturn, 1) := by decide +kernel
theorem dL_law_2564 : decode cL_law 2564 = .ok (.goto 234, 3) := by decide +kernel
theorem dL_law_2567 : decode cL_law 2567 = .ok (.aload_n 1, 1) := by decide +kernel
theorem dL_law_2568 : decode cL_law 2568 = .ok (.aload_n 0, 1) := by decide +kernel
theorem dL_law_2569 : decode cL_law 2569 = .ok (.iload 4, 2) := by decide +kernel
theorem dL_law_2571 : decode cL_law 2571 = .ok (.iconst 1, 1) := by decide +kernel
theorem dL_law_2572 : decode cL_law 2572 = .ok (.iadd, 1) := by decide +kernel
theorem dL_law_2573 : decode cL_law 2573 = .ok (.iaload, 1) := by decide +kernel
theorem dL_law_2574 : decode cL_law 2574 = .ok (.ifCond .eq 7, 3) := by decide +kernel
theorem dL_law_2577 : decode cL_law 2577 = .ok (.iconst 1, 1) := by decide +kernel
theorem dL_law_2578 : decode cL_law 2578 = .ok (.goto 4, 3) := by decide +kernel
theorem dL_law_2581 : decode cL_law 2581 = .ok (.iconst 0, 1) := by decide +kernel
theorem dL_law_2582 : decode cL_law 2582 = .ok (.aload_n 0, 1) := by decide +kernel
theorem dL_law_2583 : decode cL_law 2583 = .ok (.iload 4, 2) := by decide +kernel
theorem dL_law_2585 : decode cL_law 2585 = .ok (.iconst 2, 1) := by decide +kernel
theorem dL_law_2586 : decode cL_law 2586 = .ok (.iadd, 1) := by decide +kernel
theorem dL_law_2587 : decode cL_law 2587 = .ok (.iaload, 1) := by decide +kernel
theorem dL_law_2588 : decode cL_law 2588 = .ok (.aload_n 3, 1) := by decide +kernel
theorem dL_law_2589 : decode cL_law 2589 = .ok (.invokestatic 263, 3) := by decide +kernel
theorem dL_law_2592 : decode cL_law 2592 = .ok (.istore 5, 2) := by decide +kernel
theorem dL_law_2594 : decode cL_law 2594 = .ok (.aload_n 2, 1) := by decide +kernel
theorem dL_law_2595 : decode cL_law 2595 = .ok (.aload_n 0, 1) := by decide +kernel
theorem dL_law_2596 : decode cL_law 2596 = .ok (.iload 4, 2) := by decide +kernel
theorem dL_law_2598 : decode cL_law 2598 = .ok (.iconst 1, 1) := by decide +kernel
theorem dL_law_2599 : decode cL_law 2599 = .ok (.iadd, 1) := by decide +kernel
theorem dL_law_2600 : decode cL_law 2600 = .ok (.iaload, 1) := by decide +kernel
theorem dL_law_2601 : decode cL_law 2601 = .ok (.ifCond .eq 7, 3) := by decide +kernel
theorem dL_law_2604 : decode cL_law 2604 = .ok (.iconst 1, 1) := by decide +kernel
theorem dL_law_2605 : decode cL_law 2605 = .ok (.goto 4, 3) := by decide +kernel
theorem dL_law_2608 : decode cL_law 2608 = .ok (.iconst 0, 1) := by decide +kernel
theorem dL_law_2609 : decode cL_law 2609 = .ok (.aload_n 0, 1) := by decide +kernel
theorem dL_law_2610 : decode cL_law 2610 = .ok (.iload 4, 2) := by decide +kernel
theorem dL_law_2612 : decode cL_law 2612 = .ok (.iconst 2, 1) := by decide +kernel
theorem dL_law_2613 : decode cL_law 2613 = .ok (.iadd, 1) := by decide +kernel
theorem dL_law_2614 : decode cL_law 2614 = .ok (.iaload, 1) := by decide +kernel
theorem dL_law_2615 : decode cL_law 2615 = .ok (.invokevirtual 266, 3) := by decide +kernel
theorem dL_law_2618 : decode cL_law 2618 = .ok (.istore 6, 2) := by decide +kernel
theorem dL_law_2620 : decode cL_law 2620 = .ok (.aload_n 2, 1) := by decide +kernel
theorem dL_law_2621 : decode cL_law 2621 = .ok (.invokevirtual 137, 3) := by decide +kernel
theorem dL_law_2624 : decode cL_law 2624 = .ok (.iload 5, 2) := by decide +kernel
theorem dL_law_2626 : decode cL_law 2626 = .ok (.if_icmp .eq 5, 3) := by decide +kernel
theorem dL_law_2629 : decode cL_law 2629 = .ok (.iconst 0, 1) := by decide +kernel
theorem dL_law_2630 : decode cL_law 2630 = .ok (.ireturn, 1) := by decide +kernel
theorem dL_law_2631 : decode cL_law 2631 = .ok (.iload 5, 2) := by decide +kernel
theorem dL_law_2633 : decode cL_law 2633 = .ok (.ifCond .ne 15, 3) := by decide +kernel
theorem dL_law_2636 : decode cL_law 2636 = .ok (.aload_n 3, 1) := by decide +kernel
theorem dL_law_2637 : decode cL_law 2637 = .ok (.iconst 0, 1) := by decide +kernel
theorem dL_law_2638 : decode cL_law 2638 = .ok (.laload, 1) := by decide +kernel
theorem dL_law_2639 : decode cL_law 2639 = .ok (.iload 6, 2) := by decide +kernel
theorem dL_law_2641 : decode cL_law 2641 = .ok (.i2l, 1) := by decide +kernel
theorem dL_law_2642 : decode cL_law 2642 = .ok (.lcmp, 1) := by decide +kernel
theorem dL_law_2643 : decode cL_law 2643 = .ok (.ifCond .eq 5, 3) := by decide +kernel
theorem dL_law_2646 : decode cL_law 2646 = .ok (.iconst 0, 1) := by decide +kernel
theorem dL_law_2647 : decode cL_law 2647 = .ok (.ireturn, 1) := by decide +kernel
theorem dL_law_2648 : decode cL_law 2648 = .ok (.goto 150, 3) := by decide +kernel
theorem dL_law_2651 : decode cL_law 2651 = .ok (.aload_n 1, 1) := by decide +kernel
theorem dL_law_2652 : decode cL_law 2652 = .ok (.aload_n 0, 1) := by decide +kernel
theorem dL_law_2653 : decode cL_law 2653 = .ok (.iload 4, 2) := by decide +kernel
theorem dL_law_2655 : decode cL_law 2655 = .ok (.iconst 1, 1) := by decide +kernel
theorem dL_law_2656 : decode cL_law 2656 = .ok (.iadd, 1) := by decide +kernel
theorem dL_law_2657 : decode cL_law 2657 = .ok (.iaload, 1) := by decide +kernel
theorem dL_law_2658 : decode cL_law 2658 = .ok (.aload_n 0, 1) := by decide +kernel
theorem dL_law_2659 : decode cL_law 2659 = .ok (.iload 4, 2) := by decide +kernel
theorem dL_law_2661 : decode cL_law 2661 = .ok (.iconst 2, 1) := by decide +kernel
theorem dL_law_2662 : decode cL_law 2662 = .ok (.iadd, 1) := by decide +kernel
theorem dL_law_2663 : decode cL_law 2663 = .ok (.iaload, 1) := by decide +kernel
theorem dL_law_2664 : decode cL_law 2664 = .ok (.aload_n 0, 1) := by decide +kernel
theorem dL_law_2665 : decode cL_law 2665 = .ok (.iload 4, 2) := by decide +kernel
theorem dL_law_2667 : decode cL_law 2667 = .ok (.iconst 3, 1) := by decide +kernel
theorem dL_law_2668 : decode cL_law 2668 = .ok (.iadd, 1) := by decide +kernel
theorem dL_law_2669 : decode cL_law 2669 = .ok (.iaload, 1) := by decide +kernel
theorem dL_law_2670 : decode cL_law 2670 = .ok (.ifCond .eq 7, 3) := by decide +kernel
theorem dL_law_2673 : decode cL_law 2673 = .ok (.iconst 1, 1) := by decide +kernel
theorem dL_law_2674 : decode cL_law 2674 = .ok (.goto 4, 3) := by decide +kernel
theorem dL_law_2677 : decode cL_law 2677 = .ok (.iconst 0, 1) := by decide +kernel
theorem dL_law_2678 : decode cL_law 2678 = .ok (.aload_n 3, 1) := by decide +kernel
theorem dL_law_2679 : decode cL_law 2679 = .ok (.invokestatic 267, 3) := by decide +kernel
theorem dL_law_2682 : decode cL_law 2682 = .ok (.istore 5, 2) := by decide +kernel
theorem dL_law_2684 : decode cL_law 2684 = .ok (.aload_n 2, 1) := by decide +kernel
theorem dL_law_2685 : decode cL_law 2685 = .ok (.aload_n 0, 1) := by decide +kernel
theorem dL_law_2686 : decode cL_law 2686 = .ok (.iload 4, 2) := by decide +kernel
theorem dL_law_2688 : decode cL_law 2688 = .ok (.iconst 1, 1) := by decide +kernel
theorem dL_law_2689 : decode cL_law 2689 = .ok (.iadd, 1) := by decide +kernel
theorem dL_law_2690 : decode cL_law 2690 = .ok (.iaload, 1) := by decide +kernel
theorem dL_law_2691 : decode cL_law 2691 = .ok (.aload_n 0, 1) := by decide +kernel
theorem dL_law_2692 : decode cL_law 2692 = .ok (.iload 4, 2) := by decide +kernel
theorem dL_law_2694 : decode cL_law 2694 = .ok (.iconst 2, 1) := by decide +kernel
theorem dL_law_2695 : decode cL_law 2695 = .ok (.iadd, 1) := by decide +kernel
theorem dL_law_2696 : decode cL_law 2696 = .ok (.iaload, 1) := by decide +kernel
theorem dL_law_2697 : decode cL_law 2697 = .ok (.aload_n 0, 1) := by decide +kernel
theorem dL_law_2698 : decode cL_law 2698 = .ok (.iload 4, 2) := by decide +kernel
theorem dL_law_2700 : decode cL_law 2700 = .ok (.iconst 3, 1) := by decide +kernel
theorem dL_law_2701 : decode cL_law 2701 = .ok (.iadd, 1) := by decide +kernel
theorem dL_law_2702 : decode cL_law 2702 = .ok (.iaload, 1) := by decide +kernel
theorem dL_law_2703 : decode cL_law 2703 = .ok (.ifCond .eq 7, 3) := by decide +kernel
theorem dL_law_2706 : decode cL_law 2706 = .ok (.iconst 1, 1) := by decide +kernel
theorem dL_law_2707 : decode cL_law 2707 = .ok (.goto 4, 3) := by decide +kernel
theorem dL_law_2710 : decode cL_law 2710 = .ok (.iconst 0, 1) := by decide +kernel
theorem dL_law_2711 : decode cL_law 2711 = .ok (.invokevirtual 269, 3) := by decide +kernel
theorem dL_law_2714 : decode cL_law 2714 = .ok (.istore 6, 2) := by decide +kernel
theorem dL_law_2716 : decode cL_law 2716 = .ok (.aload_n 2, 1) := by decide +kernel
theorem dL_law_2717 : decode cL_law 2717 = .ok (.invokevirtual 137, 3) := by decide +kernel
theorem dL_law_2720 : decode cL_law 2720 = .ok (.iload 5, 2) := by decide +kernel
theorem dL_law_2722 : decode cL_law 2722 = .ok (.if_icmp .eq 5, 3) := by decide +kernel
theorem dL_law_2725 : decode cL_law 2725 = .ok (.iconst 0, 1) := by decide +kernel
theorem dL_law_2726 : decode cL_law 2726 = .ok (.ireturn, 1) := by decide +kernel
theorem dL_law_2727 : decode cL_law 2727 = .ok (.iload 5, 2) := by decide +kernel
theorem dL_law_2729 : decode cL_law 2729 = .ok (.ifCond .ne 15, 3) := by decide +kernel
theorem dL_law_2732 : decode cL_law 2732 = .ok (.aload_n 3, 1) := by decide +kernel
theorem dL_law_2733 : decode cL_law 2733 = .ok (.iconst 0, 1) := by decide +kernel
theorem dL_law_2734 : decode cL_law 2734 = .ok (.laload, 1) := by decide +kernel
theorem dL_law_2735 : decode cL_law 2735 = .ok (.iload 6, 2) := by decide +kernel
theorem dL_law_2737 : decode cL_law 2737 = .ok (.i2l, 1) := by decide +kernel
theorem dL_law_2738 : decode cL_law 2738 = .ok (.lcmp, 1) := by decide +kernel
theorem dL_law_2739 : decode cL_law 2739 = .ok (.ifCond .eq 5, 3) := by decide +kernel
theorem dL_law_2742 : decode cL_law 2742 = .ok (.iconst 0, 1) := by decide +kernel
theorem dL_law_2743 : decode cL_law 2743 = .ok (.ireturn, 1) := by decide +kernel
theorem dL_law_2744 : decode cL_law 2744 = .ok (.goto 54, 3) := by decide +kernel
theorem dL_law_2747 : decode cL_law 2747 = .ok (.aload_n 1, 1) := by decide +kernel
theorem dL_law_2748 : decode cL_law 2748 = .ok (.invokevirtual 270, 3) := by decide +kernel
theorem dL_law_2751 : decode cL_law 2751 = .ok (.aload_n 2, 1) := by decide +kernel
theorem dL_law_2752 : decode cL_law 2752 = .ok (.invokevirtual 273, 3) := by decide +kernel
theorem dL_law_2755 : decode cL_law 2755 = .ok (.if_icmp .eq 43, 3) := by decide +kernel
theorem dL_law_2758 : decode cL_law 2758 = .ok (.iconst 0, 1) := by decide +kernel
theorem dL_law_2759 : decode cL_law 2759 = .ok (.ireturn, 1) := by decide +kernel
theorem dL_law_2760 : decode cL_law 2760 = .ok (.aload_n 1, 1) := by decide +kernel
theorem dL_law_2761 : decode cL_law 2761 = .ok (.invokevirtual 274, 3) := by decide +kernel
theorem dL_law_2764 : decode cL_law 2764 = .ok (.aload_n 2, 1) := by decide +kernel
theorem dL_law_2765 : decode cL_law 2765 = .ok (.invokevirtual 277, 3) := by decide +kernel
theorem dL_law_2768 : decode cL_law 2768 = .ok (.if_icmp .eq 30, 3) := by decide +kernel
theorem dL_law_2771 : decode cL_law 2771 = .ok (.iconst 0, 1) := by decide +kernel
theorem dL_law_2772 : decode cL_law 2772 = .ok (.ireturn, 1) := by decide +kernel
theorem dL_law_2773 : decode cL_law 2773 = .ok (.aload_n 1, 1) := by decide +kernel
theorem dL_law_2774 : decode cL_law 2774 = .ok (.aload_n 0, 1) := by decide +kernel
theorem dL_law_2775 : decode cL_law 2775 = .ok (.iload 4, 2) := by decide +kernel
theorem dL_law_2777 : decode cL_law 2777 = .ok (.iconst 1, 1) := by decide +kernel
theorem dL_law_2778 : decode cL_law 2778 = .ok (.iadd, 1) := by decide +kernel
theorem dL_law_2779 : decode cL_law 2779 = .ok (.iaload, 1) := by decide +kernel
theorem dL_law_2780 : decode cL_law 2780 = .ok (.invokevirtual 278, 3) := by decide +kernel
theorem dL_law_2783 : decode cL_law 2783 = .ok (.aload_n 2, 1) := by decide +kernel
theorem dL_law_2784 : decode cL_law 2784 = .ok (.aload_n 0, 1) := by decide +kernel
theorem dL_law_2785 : decode cL_law 2785 = .ok (.iload 4, 2) := by decide +kernel
theorem dL_law_2787 : decode cL_law 2787 = .ok (.iconst 1, 1) := by decide +kernel
theorem dL_law_2788 : decode cL_law 2788 = .ok (.iadd, 1) := by decide +kernel
theorem dL_law_2789 : decode cL_law 2789 = .ok (.iaload, 1) := by decide +kernel
theorem dL_law_2790 : decode cL_law 2790 = .ok (.invokevirtual 281, 3) := by decide +kernel
theorem dL_law_2793 : decode cL_law 2793 = .ok (.if_icmp .eq 5, 3) := by decide +kernel
theorem dL_law_2796 : decode cL_law 2796 = .ok (.iconst 0, 1) := by decide +kernel
theorem dL_law_2797 : decode cL_law 2797 = .ok (.ireturn, 1) := by decide +kernel
theorem dL_law_2798 : decode cL_law 2798 = .ok (.iinc 4 6, 3) := by decide +kernel
theorem dL_law_2801 : decode cL_law 2801 = .ok (.goto (-2778), 3) := by decide +kernel
theorem dL_law_2804 : decode cL_law 2804 = .ok (.iconst 1, 1) := by decide +kernel
theorem dL_law_2805 : decode cL_law 2805 = .ok (.ireturn, 1) := by decide +kernel
