theorem dL_law__2562 : decode cL_law_ 2562 = .ok (.iadd, 1) := by decide +kernel
theorem dL_law__2563 : decode cL_law_ 2563 = .ok (.iaload, 1) := by decide +kernel
theorem dL_law__2564 : decode cL_law_ 2564 = .ok (.invokevirtual 276, 3) := by decide +kernel
theorem dL_law__2567 : decode cL_law_ 2567 = .ok (.aload_n 2, 1) := by decide +kernel
theorem dL_law__2568 : decode cL_law_ 2568 = .ok (.aload_n 0, 1) := by decide +kernel
theorem dL_law__2569 : decode cL_law_ 2569 = .ok (.iload 4, 2) := by decide +kernel
theorem dL_law__2571 : decode cL_law_ 2571 = .ok (.iconst 1, 1) := by decide +kernel
theorem dL_law__2572 : decode cL_law_ 2572 = .ok (.iadd, 1) := by decide +kernel
theorem dL_law__2573 : decode cL_law_ 2573 = .ok (.iaload, 1) := by decide +kernel
theorem dL_law__2574 : decode cL_law_ 2574 = .ok (.invokevirtual 279, 3) := by decide +kernel
theorem dL_law__2577 : decode cL_law_ 2577 = .ok (.if_icmp .eq 67, 3) := by decide +kernel
theorem dL_law__2580 : decode cL_law_ 2580 = .ok (.iconst 0, 1) := by decide +kernel
theorem dL_law__2581 : decode cL_law_ 2581 = .ok (.ireturn, 1) := by decide +kernel
theorem dL_law__2582 : decode cL_law_ 2582 = .ok (.aload_n 1, 1) := by decide +kernel
theorem dL_law__2583 : decode cL_law_ 2583 = .ok (.invokevirtual 280, 3) := by decide +kernel
theorem dL_law__2586 : decode cL_law_ 2586 = .ok (.aload_n 2, 1) := by decide +kernel
theorem dL_law__2587 : decode cL_law_ 2587 = .ok (.invokevirtual 283, 3) := by decide +kernel
theorem dL_law__2590 : decode cL_law_ 2590 = .ok (.if_icmp .eq 54, 3) := by decide +kernel
theorem dL_law__2593 : decode cL_law_ 2593 = .ok (.iconst 0, 1) := by decide +kernel
theorem dL_law__2594 : decode cL_law_ 2594 = .ok (.ireturn, 1) := by decide +kernel
theorem dL_law__2595 : decode cL_law_ 2595 = .ok (.aload_n 1, 1) := by decide +kernel
theorem dL_law__2596 : decode cL_law_ 2596 = .ok (.invokevirtual 284, 3) := by decide +kernel
theorem dL_law__2599 : decode cL_law_ 2599 = .ok (.aload_n 2, 1) := by decide +kernel
theorem dL_law__2600 : decode cL_law_ 2600 = .ok (.invokevirtual 287, 3) := by decide +kernel
theorem dL_law__2603 : decode cL_law_ 2603 = .ok (.goto 41, 3) := by decide +kernel
theorem dL_law__2606 : decode cL_law_ 2606 = .ok (.aload_n 1, 1) := by decide +kernel
theorem dL_law__2607 : decode cL_law_ 2607 = .ok (.invokevirtual 288, 3) := by decide +kernel
theorem dL_law__2610 : decode cL_law_ 2610 = .ok (.aload_n 2, 1) := by decide +kernel
theorem dL_law__2611 : decode cL_law_ 2611 = .ok (.invokevirtual 291, 3) := by decide +kernel
theorem dL_law__2614 : decode cL_law_ 2614 = .ok (.if_icmp .eq 30, 3) := by decide +kernel
theorem dL_law__2617 : decode cL_law_ 2617 = .ok (.iconst 0, 1) := by decide +kernel
theorem dL_law__2618 : decode cL_law_ 2618 = .ok (.ireturn, 1) := by decide +kernel
theorem dL_law__2619 : decode cL_law_ 2619 = .ok (.aload_n 1, 1) := by decide +kernel
theorem dL_law__2620 : decode cL_law_ 2620 = .ok (.aload_n 0, 1) := by decide +kernel
theorem dL_law__2621 : decode cL_law_ 2621 = .ok (.iload 4, 2) := by decide +kernel
theorem dL_law__2623 : decode cL_law_ 2623 = .ok (.iconst 1, 1) := by decide +kernel
theorem dL_law__2624 : decode cL_law_ 2624 = .ok (.iadd, 1) := by decide +kernel
theorem dL_law__2625 : decode cL_law_ 2625 = .ok (.iaload, 1) := by decide +kernel
theorem dL_law__2626 : decode cL_law_ 2626 = .ok (.invokevirtual 292, 3) := by decide +kernel
theorem dL_law__2629 : decode cL_law_ 2629 = .ok (.aload_n 2, 1) := by decide +kernel
theorem dL_law__2630 : decode cL_law_ 2630 = .ok (.aload_n 0, 1) := by decide +kernel
theorem dL_law__2631 : decode cL_law_ 2631 = .ok (.iload 4, 2) := by decide +kernel
theorem dL_law__2633 : decode cL_law_ 2633 = .ok (.iconst 1, 1) := by decide +kernel
theorem dL_law__2634 : decode cL_law_ 2634 = .ok (.iadd, 1) := by decide +kernel
theorem dL_law__2635 : decode cL_law_ 2635 = .ok (.iaload, 1) := by decide +kernel
theorem dL_law__2636 : decode cL_law_ 2636 = .ok (.invokevirtual 295, 3) := by decide +kernel
theorem dL_law__2639 : decode cL_law_ 2639 = .ok (.if_icmp .eq 5, 3) := by decide +kernel
theorem dL_law__2642 : decode cL_law_ 2642 = .ok (.iconst 0, 1) := by decide +kernel
theorem dL_law__2643 : decode cL_law_ 2643 = .ok (.ireturn, 1) := by decide +kernel
theorem dL_law__2644 : decode cL_law_ 2644 = .ok (.iinc 4 6, 3) := by decide +kernel
theorem dL_law__2647 : decode cL_law_ 2647 = .ok (.goto (-2624), 3) := by decide +kernel
theorem dL_law__2650 : decode cL_law_ 2650 = .ok (.iconst 1, 1) := by decide +kernel
theorem dL_law__2651 : decode cL_law_ 2651 = .ok (.ireturn, 1) := by decide +kernel
