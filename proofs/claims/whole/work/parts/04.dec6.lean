theorem dL_law__2624 : decode cL_law_ 2624 = .ok (.invokevirtual 309, 3) := by decide +kernel
theorem dL_law__2627 : decode cL_law_ 2627 = .ok (.aload_n 2, 1) := by decide +kernel
theorem dL_law__2628 : decode cL_law_ 2628 = .ok (.invokevirtual 313, 3) := by decide +kernel
theorem dL_law__2631 : decode cL_law_ 2631 = .ok (.if_icmp .eq 54, 3) := by decide +kernel
theorem dL_law__2634 : decode cL_law_ 2634 = .ok (.iconst 0, 1) := by decide +kernel
theorem dL_law__2635 : decode cL_law_ 2635 = .ok (.ireturn, 1) := by decide +kernel
theorem dL_law__2636 : decode cL_law_ 2636 = .ok (.aload_n 1, 1) := by decide +kernel
theorem dL_law__2637 : decode cL_law_ 2637 = .ok (.invokevirtual 314, 3) := by decide +kernel
theorem dL_law__2640 : decode cL_law_ 2640 = .ok (.aload_n 2, 1) := by decide +kernel
theorem dL_law__2641 : decode cL_law_ 2641 = .ok (.invokevirtual 317, 3) := by decide +kernel
theorem dL_law__2644 : decode cL_law_ 2644 = .ok (.goto 41, 3) := by decide +kernel
theorem dL_law__2647 : decode cL_law_ 2647 = .ok (.aload_n 1, 1) := by decide +kernel
theorem dL_law__2648 : decode cL_law_ 2648 = .ok (.invokevirtual 318, 3) := by decide +kernel
theorem dL_law__2651 : decode cL_law_ 2651 = .ok (.aload_n 2, 1) := by decide +kernel
theorem dL_law__2652 : decode cL_law_ 2652 = .ok (.invokevirtual 321, 3) := by decide +kernel
theorem dL_law__2655 : decode cL_law_ 2655 = .ok (.if_icmp .eq 30, 3) := by decide +kernel
theorem dL_law__2658 : decode cL_law_ 2658 = .ok (.iconst 0, 1) := by decide +kernel
theorem dL_law__2659 : decode cL_law_ 2659 = .ok (.ireturn, 1) := by decide +kernel
theorem dL_law__2660 : decode cL_law_ 2660 = .ok (.aload_n 1, 1) := by decide +kernel
theorem dL_law__2661 : decode cL_law_ 2661 = .ok (.aload_n 0, 1) := by decide +kernel
theorem dL_law__2662 : decode cL_law_ 2662 = .ok (.iload 4, 2) := by decide +kernel
theorem dL_law__2664 : decode cL_law_ 2664 = .ok (.iconst 1, 1) := by decide +kernel
theorem dL_law__2665 : decode cL_law_ 2665 = .ok (.iadd, 1) := by decide +kernel
theorem dL_law__2666 : decode cL_law_ 2666 = .ok (.iaload, 1) := by decide +kernel
theorem dL_law__2667 : decode cL_law_ 2667 = .ok (.invokevirtual 322, 3) := by decide +kernel
theorem dL_law__2670 : decode cL_law_ 2670 = .ok (.aload_n 2, 1) := by decide +kernel
theorem dL_law__2671 : decode cL_law_ 2671 = .ok (.aload_n 0, 1) := by decide +kernel
theorem dL_law__2672 : decode cL_law_ 2672 = .ok (.iload 4, 2) := by decide +kernel
theorem dL_law__2674 : decode cL_law_ 2674 = .ok (.iconst 1, 1) := by decide +kernel
theorem dL_law__2675 : decode cL_law_ 2675 = .ok (.iadd, 1) := by decide +kernel
theorem dL_law__2676 : decode cL_law_ 2676 = .ok (.iaload, 1) := by decide +kernel
theorem dL_law__2677 : decode cL_law_ 2677 = .ok (.invokevirtual 325, 3) := by decide +kernel
theorem dL_law__2680 : decode cL_law_ 2680 = .ok (.if_icmp .eq 5, 3) := by decide +kernel
theorem dL_law__2683 : decode cL_law_ 2683 = .ok (.iconst 0, 1) := by decide +kernel
theorem dL_law__2684 : decode cL_law_ 2684 = .ok (.ireturn, 1) := by decide +kernel
theorem dL_law__2685 : decode cL_law_ 2685 = .ok (.iinc 4 6, 3) := by decide +kernel
theorem dL_law__2688 : decode cL_law_ 2688 = .ok (.goto (-2665), 3) := by decide +kernel
theorem dL_law__2691 : decode cL_law_ 2691 = .ok (.iconst 1, 1) := by decide +kernel
theorem dL_law__2692 : decode cL_law_ 2692 = .ok (.ireturn, 1) := by decide +kernel
