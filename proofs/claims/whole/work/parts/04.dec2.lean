theorem dX11_fates_1 : decode cX11_fates 1 = .ok (.invokestatic 282, 3) := by decide +kernel
theorem dX11_fates_4 : decode cX11_fates 4 = .ok (.aload_n 0, 1) := by decide +kernel
theorem dX11_fates_5 : decode cX11_fates 5 = .ok (.iload_n 1, 1) := by decide +kernel
theorem dX11_fates_6 : decode cX11_fates 6 = .ok (.invokevirtual 285, 3) := by decide +kernel
theorem dX11_fates_9 : decode cX11_fates 9 = .ok (.aload_n 0, 1) := by decide +kernel
theorem dX11_fates_10 : decode cX11_fates 10 = .ok (.getfield 23, 3) := by decide +kernel
theorem dX11_fates_13 : decode cX11_fates 13 = .ok (.invokevirtual 291, 3) := by decide +kernel
theorem dX11_fates_16 : decode cX11_fates 16 = .ok (.ireturn, 1) := by decide +kernel
theorem dX11_last_0 : decode cX11_last 0 = .ok (.aload_n 0, 1) := by decide +kernel
theorem dX11_last_1 : decode cX11_last 1 = .ok (.getfield 23, 3) := by decide +kernel
theorem dX11_last_4 : decode cX11_last 4 = .ok (.aload_n 0, 1) := by decide +kernel
theorem dX11_last_5 : decode cX11_last 5 = .ok (.getfield 19, 3) := by decide +kernel
theorem dX11_last_8 : decode cX11_last 8 = .ok (.invokevirtual 103, 3) := by decide +kernel
theorem dX11_last_11 : decode cX11_last 11 = .ok (.iconst (-1), 1) := by decide +kernel
theorem dX11_last_12 : decode cX11_last 12 = .ok (.istore_n 1, 1) := by decide +kernel
theorem dX11_last_13 : decode cX11_last 13 = .ok (.iconst 1, 1) := by decide +kernel
theorem dX11_last_14 : decode cX11_last 14 = .ok (.istore_n 2, 1) := by decide +kernel
theorem dX11_last_15 : decode cX11_last 15 = .ok (.iload_n 2, 1) := by decide +kernel
theorem dX11_last_16 : decode cX11_last 16 = .ok (.bipush 100, 2) := by decide +kernel
theorem dX11_last_18 : decode cX11_last 18 = .ok (.if_icmp .gt 26, 3) := by decide +kernel
theorem dX11_last_21 : decode cX11_last 21 = .ok (.aload_n 0, 1) := by decide +kernel
theorem dX11_last_22 : decode cX11_last 22 = .ok (.getfield 23, 3) := by decide +kernel
theorem dX11_last_25 : decode cX11_last 25 = .ok (.aload_n 0, 1) := by decide +kernel
theorem dX11_last_26 : decode cX11_last 26 = .ok (.getfield 39, 3) := by decide +kernel
theorem dX11_last_29 : decode cX11_last 29 = .ok (.iconst 0, 1) := by decide +kernel
theorem dX11_last_30 : decode cX11_last 30 = .ok (.invokevirtual 178, 3) := by decide +kernel
theorem dX11_last_33 : decode cX11_last 33 = .ok (.ifCond .le 5, 3) := by decide +kernel
theorem dX11_last_36 : decode cX11_last 36 = .ok (.iload_n 2, 1) := by decide +kernel
theorem dX11_last_37 : decode cX11_last 37 = .ok (.istore_n 1, 1) := by decide +kernel
theorem dX11_last_38 : decode cX11_last 38 = .ok (.iinc 2 1, 3) := by decide +kernel
theorem dX11_last_41 : decode cX11_last 41 = .ok (.goto (-26), 3) := by decide +kernel
theorem dX11_last_44 : decode cX11_last 44 = .ok (.iload_n 1, 1) := by decide +kernel
theorem dX11_last_45 : decode cX11_last 45 = .ok (.ireturn, 1) := by decide +kernel
theorem dX11_gives_0 : decode cX11_gives 0 = .ok (.iload_n 1, 1) := by decide +kernel
theorem dX11_gives_1 : decode cX11_gives 1 = .ok (.iconst (-1), 1) := by decide +kernel
theorem dX11_gives_2 : decode cX11_gives 2 = .ok (.if_icmp .eq 8, 3) := by decide +kernel
theorem dX11_gives_5 : decode cX11_gives 5 = .ok (.aload_n 0, 1) := by decide +kernel
theorem dX11_gives_6 : decode cX11_gives 6 = .ok (.iload_n 1, 1) := by decide +kernel
theorem dX11_gives_7 : decode cX11_gives 7 = .ok (.invokevirtual 155, 3) := by decide +kernel
theorem dX11_gives_10 : decode cX11_gives 10 = .ok (.aload_n 0, 1) := by decide +kernel
theorem dX11_gives_11 : decode cX11_gives 11 = .ok (.getfield 77, 3) := by decide +kernel
theorem dX11_gives_14 : decode cX11_gives 14 = .ok (.aload_n 0, 1) := by decide +kernel
theorem dX11_gives_15 : decode cX11_gives 15 = .ok (.getfield 19, 3) := by decide +kernel
theorem dX11_gives_18 : decode cX11_gives 18 = .ok (.invokevirtual 294, 3) := by decide +kernel
theorem dX11_gives_21 : decode cX11_gives 21 = .ok (.istore_n 2, 1) := by decide +kernel
theorem dX11_gives_22 : decode cX11_gives 22 = .ok (.iload_n 1, 1) := by decide +kernel
theorem dX11_gives_23 : decode cX11_gives 23 = .ok (.iconst (-1), 1) := by decide +kernel
theorem dX11_gives_24 : decode cX11_gives 24 = .ok (.if_icmp .ne 7, 3) := by decide +kernel
theorem dX11_gives_27 : decode cX11_gives 27 = .ok (.iload_n 2, 1) := by decide +kernel
theorem dX11_gives_28 : decode cX11_gives 28 = .ok (.goto 12, 3) := by decide +kernel
theorem dX11_gives_31 : decode cX11_gives 31 = .ok (.aload_n 0, 1) := by decide +kernel
theorem dX11_gives_32 : decode cX11_gives 32 = .ok (.getfield 77, 3) := by decide +kernel
theorem dX11_gives_35 : decode cX11_gives 35 = .ok (.getfield 298, 3) := by decide +kernel
theorem dX11_gives_38 : decode cX11_gives 38 = .ok (.iload_n 1, 1) := by decide +kernel
theorem dX11_gives_39 : decode cX11_gives 39 = .ok (.iaload, 1) := by decide +kernel
theorem dX11_gives_40 : decode cX11_gives 40 = .ok (.ireturn, 1) := by decide +kernel
theorem dX11_trade_0 : decode cX11_trade 0 = .ok (.aload_n 0, 1) := by decide +kernel
theorem dX11_trade_1 : decode cX11_trade 1 = .ok (.iload_n 1, 1) := by decide +kernel
theorem dX11_trade_2 : decode cX11_trade 2 = .ok (.invokevirtual 155, 3) := by decide +kernel
theorem dX11_trade_5 : decode cX11_trade 5 = .ok (.aload_n 0, 1) := by decide +kernel
theorem dX11_trade_6 : decode cX11_trade 6 = .ok (.getfield 77, 3) := by decide +kernel
theorem dX11_trade_9 : decode cX11_trade 9 = .ok (.aload_n 0, 1) := by decide +kernel
theorem dX11_trade_10 : decode cX11_trade 10 = .ok (.getfield 19, 3) := by decide +kernel
theorem dX11_trade_13 : decode cX11_trade 13 = .ok (.invokevirtual 302, 3) := by decide +kernel
theorem dX11_trade_16 : decode cX11_trade 16 = .ok (.aload_n 0, 1) := by decide +kernel
theorem dX11_trade_17 : decode cX11_trade 17 = .ok (.getfield 77, 3) := by decide +kernel
theorem dX11_trade_20 : decode cX11_trade 20 = .ok (.getfield 305, 3) := by decide +kernel
theorem dX11_trade_23 : decode cX11_trade 23 = .ok (.iload_n 1, 1) := by decide +kernel
theorem dX11_trade_24 : decode cX11_trade 24 = .ok (.iaload, 1) := by decide +kernel
theorem dX11_trade_25 : decode cX11_trade 25 = .ok (.ireturn, 1) := by decide +kernel
theorem dX11_ring_0 : decode cX11_ring 0 = .ok (.aload_n 0, 1) := by decide +kernel
theorem dX11_ring_1 : decode cX11_ring 1 = .ok (.iload_n 1, 1) := by decide +kernel
theorem dX11_ring_2 : decode cX11_ring 2 = .ok (.invokevirtual 155, 3) := by decide +kernel
theorem dX11_ring_5 : decode cX11_ring 5 = .ok (.aload_n 0, 1) := by decide +kernel
theorem dX11_ring_6 : decode cX11_ring 6 = .ok (.getfield 77, 3) := by decide +kernel
theorem dX11_ring_9 : decode cX11_ring 9 = .ok (.aload_n 0, 1) := by decide +kernel
theorem dX11_ring_10 : decode cX11_ring 10 = .ok (.getfield 19, 3) := by decide +kernel
theorem dX11_ring_13 : decode cX11_ring 13 = .ok (.invokevirtual 302, 3) := by decide +kernel
theorem dX11_ring_16 : decode cX11_ring 16 = .ok (.aload_n 0, 1) := by decide +kernel
theorem dX11_ring_17 : decode cX11_ring 17 = .ok (.getfield 77, 3) := by decide +kernel
theorem dX11_ring_20 : decode cX11_ring 20 = .ok (.getfield 308, 3) := by decide +kernel
theorem dX11_ring_23 : decode cX11_ring 23 = .ok (.iload_n 1, 1) := by decide +kernel
theorem dX11_ring_24 : decode cX11_ring 24 = .ok (.iaload, 1) := by decide +kernel
theorem dX11_ring_25 : decode cX11_ring 25 = .ok (.ireturn, 1) := by decide +kernel
theorem dX11_swap_0 : decode cX11_swap 0 = .ok (.aload_n 0, 1) := by decide +kernel
theorem dX11_swap_1 : decode cX11_swap 1 = .ok (.iload_n 1, 1) := by decide +kernel
theorem dX11_swap_2 : decode cX11_swap 2 = .ok (.iload_n 2, 1) := by decide +kernel
theorem dX11_swap_3 : decode cX11_swap 3 = .ok (.invokevirtual 220, 3) := by decide +kernel
theorem dX11_swap_6 : decode cX11_swap 6 = .ok (.aload_n 0, 1) := by decide +kernel
theorem dX11_swap_7 : decode cX11_swap 7 = .ok (.getfield 19, 3) := by decide +kernel
theorem dX11_swap_10 : decode cX11_swap 10 = .ok (.iload_n 1, 1) := by decide +kernel
theorem dX11_swap_11 : decode cX11_swap 11 = .ok (.iload_n 2, 1) := by decide +kernel
theorem dX11_swap_12 : decode cX11_swap 12 = .ok (.invokestatic 311, 3) := by decide +kernel
theorem dX11_swap_15 : decode cX11_swap 15 = .ok (.ifCond .eq 19, 3) := by decide +kernel
theorem dX11_swap_18 : decode cX11_swap 18 = .ok (.aload_n 0, 1) := by decide +kernel
theorem dX11_swap_19 : decode cX11_swap 19 = .ok (.getfield 19, 3) := by decide +kernel
theorem dX11_swap_22 : decode cX11_swap 22 = .ok (.iload_n 2, 1) := by decide +kernel
theorem dX11_swap_23 : decode cX11_swap 23 = .ok (.iload_n 1, 1) := by decide +kernel
theorem dX11_swap_24 : decode cX11_swap 24 = .ok (.invokestatic 311, 3) := by decide +kernel
theorem dX11_swap_27 : decode cX11_swap 27 = .ok (.ifCond .eq 7, 3) := by decide +kernel
theorem dX11_swap_30 : decode cX11_swap 30 = .ok (.iconst 1, 1) := by decide +kernel
theorem dX11_swap_31 : decode cX11_swap 31 = .ok (.goto 4, 3) := by decide +kernel
theorem dX11_swap_34 : decode cX11_swap 34 = .ok (.iconst 0, 1) := by decide +kernel
theorem dX11_swap_35 : decode cX11_swap 35 = .ok (.ireturn, 1) := by decide +kernel
theorem dX11_all_0 : decode cX11_all 0 = .ok (.aload_n 0, 1) := by decide +kernel
theorem dX11_all_1 : decode cX11_all 1 = .ok (.getfield 19, 3) := by decide +kernel
theorem dX11_all_4 : decode cX11_all 4 = .ok (.invokestatic 315, 3) := by decide +kernel
theorem dX11_all_7 : decode cX11_all 7 = .ok (.ireturn, 1) := by decide +kernel
theorem dX11_missing_0 : decode cX11_missing 0 = .ok (.iconst 0, 1) := by decide +kernel
theorem dX11_missing_1 : decode cX11_missing 1 = .ok (.istore_n 1, 1) := by decide +kernel
theorem dX11_missing_2 : decode cX11_missing 2 = .ok (.iconst 0, 1) := by decide +kernel
theorem dX11_missing_3 : decode cX11_missing 3 = .ok (.istore_n 2, 1) := by decide +kernel
theorem dX11_missing_4 : decode cX11_missing 4 = .ok (.iload_n 2, 1) := by decide +kernel
theorem dX11_missing_5 : decode cX11_missing 5 = .ok (.bipush 8, 2) := by decide +kernel
theorem dX11_missing_7 : decode cX11_missing 7 = .ok (.if_icmp .ge 41, 3) := by decide +kernel
theorem dX11_missing_10 : decode cX11_missing 10 = .ok (.aload_n 0, 1) := by decide +kernel
theorem dX11_missing_11 : decode cX11_missing 11 = .ok (.getfield 19, 3) := by decide +kernel
theorem dX11_missing_14 : decode cX11_missing 14 = .ok (.getfield 151, 3) := by decide +kernel
theorem dX11_missing_17 : decode cX11_missing 17 = .ok (.iconst 0, 1) := by decide +kernel
theorem dX11_missing_18 : decode cX11_missing 18 = .ok (.aaload, 1) := by decide +kernel
theorem dX11_missing_19 : decode cX11_missing 19 = .ok (.iload_n 2, 1) := by decide +kernel
theorem dX11_missing_20 : decode cX11_missing 20 = .ok (.iaload, 1) := by decide +kernel
theorem dX11_missing_21 : decode cX11_missing 21 = .ok (.ifCond .le 21, 3) := by decide +kernel
theorem dX11_missing_24 : decode cX11_missing 24 = .ok (.aload_n 0, 1) := by decide +kernel
theorem dX11_missing_25 : decode cX11_missing 25 = .ok (.getfield 19, 3) := by decide +kernel
theorem dX11_missing_28 : decode cX11_missing 28 = .ok (.iconst 5, 1) := by decide +kernel
theorem dX11_missing_29 : decode cX11_missing 29 = .ok (.iload_n 2, 1) := by decide +kernel
theorem dX11_missing_30 : decode cX11_missing 30 = .ok (.invokevirtual 275, 3) := by decide +kernel
theorem dX11_missing_33 : decode cX11_missing 33 = .ok (.ifCond .ne 9, 3) := by decide +kernel
theorem dX11_missing_36 : decode cX11_missing 36 = .ok (.iload_n 1, 1) := by decide +kernel
theorem dX11_missing_37 : decode cX11_missing 37 = .ok (.iconst 1, 1) := by decide +kernel
theorem dX11_missing_38 : decode cX11_missing 38 = .ok (.iload_n 2, 1) := by decide +kernel
theorem dX11_missing_39 : decode cX11_missing 39 = .ok (.ishl, 1) := by decide +kernel
theorem dX11_missing_40 : decode cX11_missing 40 = .ok (.ior, 1) := by decide +kernel
theorem dX11_missing_41 : decode cX11_missing 41 = .ok (.istore_n 1, 1) := by decide +kernel
theorem dX11_missing_42 : decode cX11_missing 42 = .ok (.iinc 2 1, 3) := by decide +kernel
theorem dX11_missing_45 : decode cX11_missing 45 = .ok (.goto (-41), 3) := by decide +kernel
theorem dX11_missing_48 : decode cX11_missing 48 = .ok (.iload_n 1, 1) := by decide +kernel
theorem dX11_missing_49 : decode cX11_missing 49 = .ok (.ireturn, 1) := by decide +kernel
theorem dX11_nobody_0 : decode cX11_nobody 0 = .ok (.iconst 0, 1) := by decide +kernel
theorem dX11_nobody_1 : decode cX11_nobody 1 = .ok (.istore_n 1, 1) := by decide +kernel
theorem dX11_nobody_2 : decode cX11_nobody 2 = .ok (.iconst 1, 1) := by decide +kernel
theorem dX11_nobody_3 : decode cX11_nobody 3 = .ok (.istore_n 2, 1) := by decide +kernel
theorem dX11_nobody_4 : decode cX11_nobody 4 = .ok (.iload_n 2, 1) := by decide +kernel
theorem dX11_nobody_5 : decode cX11_nobody 5 = .ok (.bipush 8, 2) := by decide +kernel
theorem dX11_nobody_7 : decode cX11_nobody 7 = .ok (.if_icmp .ge 32, 3) := by decide +kernel
theorem dX11_nobody_10 : decode cX11_nobody 10 = .ok (.aload_n 0, 1) := by decide +kernel
theorem dX11_nobody_11 : decode cX11_nobody 11 = .ok (.getfield 19, 3) := by decide +kernel
theorem dX11_nobody_14 : decode cX11_nobody 14 = .ok (.iconst 4, 1) := by decide +kernel
theorem dX11_nobody_15 : decode cX11_nobody 15 = .ok (.iload_n 2, 1) := by decide +kernel
theorem dX11_nobody_16 : decode cX11_nobody 16 = .ok (.invokevirtual 288, 3) := by decide +kernel
theorem dX11_nobody_19 : decode cX11_nobody 19 = .ok (.aload_n 0, 1) := by decide +kernel
theorem dX11_nobody_20 : decode cX11_nobody 20 = .ok (.getfield 19, 3) := by decide +kernel
theorem dX11_nobody_23 : decode cX11_nobody 23 = .ok (.iconst 4, 1) := by decide +kernel
theorem dX11_nobody_24 : decode cX11_nobody 24 = .ok (.iload_n 1, 1) := by decide +kernel
theorem dX11_nobody_25 : decode cX11_nobody 25 = .ok (.invokevirtual 288, 3) := by decide +kernel
theorem dX11_nobody_28 : decode cX11_nobody 28 = .ok (.if_icmp .ge 5, 3) := by decide +kernel
theorem dX11_nobody_31 : decode cX11_nobody 31 = .ok (.iload_n 2, 1) := by decide +kernel
theorem dX11_nobody_32 : decode cX11_nobody 32 = .ok (.istore_n 1, 1) := by decide +kernel
theorem dX11_nobody_33 : decode cX11_nobody 33 = .ok (.iinc 2 1, 3) := by decide +kernel
theorem dX11_nobody_36 : decode cX11_nobody 36 = .ok (.goto (-32), 3) := by decide +kernel
theorem dX11_nobody_39 : decode cX11_nobody 39 = .ok (.iload_n 1, 1) := by decide +kernel
theorem dX11_nobody_40 : decode cX11_nobody 40 = .ok (.ireturn, 1) := by decide +kernel
theorem dX11_rules_0 : decode cX11_rules 0 = .ok (.aload_n 0, 1) := by decide +kernel
theorem dX11_rules_1 : decode cX11_rules 1 = .ok (.invokevirtual 318, 3) := by decide +kernel
theorem dX11_rules_4 : decode cX11_rules 4 = .ok (.aload_n 0, 1) := by decide +kernel
theorem dX11_rules_5 : decode cX11_rules 5 = .ok (.getfield 84, 3) := by decide +kernel
theorem dX11_rules_8 : decode cX11_rules 8 = .ok (.aload_n 0, 1) := by decide +kernel
theorem dX11_rules_9 : decode cX11_rules 9 = .ok (.getfield 19, 3) := by decide +kernel
theorem dX11_rules_12 : decode cX11_rules 12 = .ok (.aload_n 0, 1) := by decide +kernel
theorem dX11_rules_13 : decode cX11_rules 13 = .ok (.getfield 10, 3) := by decide +kernel
theorem dX11_rules_16 : decode cX11_rules 16 = .ok (.invokevirtual 321, 3) := by decide +kernel
theorem dX11_rules_19 : decode cX11_rules 19 = .ok (.iload_n 1, 1) := by decide +kernel
theorem dX11_rules_20 : decode cX11_rules 20 = .ok (.ifCond .eq 13, 3) := by decide +kernel
theorem dX11_rules_23 : decode cX11_rules 23 = .ok (.aload_n 0, 1) := by decide +kernel
theorem dX11_rules_24 : decode cX11_rules 24 = .ok (.getfield 84, 3) := by decide +kernel
theorem dX11_rules_27 : decode cX11_rules 27 = .ok (.invokevirtual 325, 3) := by decide +kernel
theorem dX11_rules_30 : decode cX11_rules 30 = .ok (.goto 10, 3) := by decide +kernel
theorem dX11_rules_33 : decode cX11_rules 33 = .ok (.aload_n 0, 1) := by decide +kernel
theorem dX11_rules_34 : decode cX11_rules 34 = .ok (.getfield 84, 3) := by decide +kernel
theorem dX11_rules_37 : decode cX11_rules 37 = .ok (.getfield 328, 3) := by decide +kernel
theorem dX11_rules_40 : decode cX11_rules 40 = .ok (.ireturn, 1) := by decide +kernel
theorem dX11_tell_0 : decode cX11_tell 0 = .ok (.aload_n 0, 1) := by decide +kernel
theorem dX11_tell_1 : decode cX11_tell 1 = .ok (.invokevirtual 318, 3) := by decide +kernel
theorem dX11_tell_4 : decode cX11_tell 4 = .ok (.aload_n 0, 1) := by decide +kernel
theorem dX11_tell_5 : decode cX11_tell 5 = .ok (.getfield 84, 3) := by decide +kernel
theorem dX11_tell_8 : decode cX11_tell 8 = .ok (.aload_n 0, 1) := by decide +kernel
theorem dX11_tell_9 : decode cX11_tell 9 = .ok (.getfield 19, 3) := by decide +kernel
theorem dX11_tell_12 : decode cX11_tell 12 = .ok (.aload_n 0, 1) := by decide +kernel
theorem dX11_tell_13 : decode cX11_tell 13 = .ok (.getfield 10, 3) := by decide +kernel
theorem dX11_tell_16 : decode cX11_tell 16 = .ok (.invokevirtual 321, 3) := by decide +kernel
theorem dX11_tell_19 : decode cX11_tell 19 = .ok (.aload_n 0, 1) := by decide +kernel
theorem dX11_tell_20 : decode cX11_tell 20 = .ok (.getfield 84, 3) := by decide +kernel
theorem dX11_tell_23 : decode cX11_tell 23 = .ok (.aload_n 0, 1) := by decide +kernel
theorem dX11_tell_24 : decode cX11_tell 24 = .ok (.getfield 19, 3) := by decide +kernel
theorem dX11_tell_27 : decode cX11_tell 27 = .ok (.invokevirtual 330, 3) := by decide +kernel
theorem dX11_tell_30 : decode cX11_tell 30 = .ok (.ireturn, 1) := by decide +kernel
theorem dX11_rests_0 : decode cX11_rests 0 = .ok (.aload_n 0, 1) := by decide +kernel
theorem dX11_rests_1 : decode cX11_rests 1 = .ok (.iload_n 1, 1) := by decide +kernel
theorem dX11_rests_2 : decode cX11_rests 2 = .ok (.invokevirtual 155, 3) := by decide +kernel
theorem dX11_rests_5 : decode cX11_rests 5 = .ok (.aload_n 0, 1) := by decide +kernel
theorem dX11_rests_6 : decode cX11_rests 6 = .ok (.getfield 19, 3) := by decide +kernel
theorem dX11_rests_9 : decode cX11_rests 9 = .ok (.getfield 170, 3) := by decide +kernel
theorem dX11_rests_12 : decode cX11_rests 12 = .ok (.bipush 7, 2) := by decide +kernel
theorem dX11_rests_14 : decode cX11_rests 14 = .ok (.aaload, 1) := by decide +kernel
theorem dX11_rests_15 : decode cX11_rests 15 = .ok (.iload_n 1, 1) := by decide +kernel
theorem dX11_rests_16 : decode cX11_rests 16 = .ok (.iaload, 1) := by decide +kernel
theorem dX11_rests_17 : decode cX11_rests 17 = .ok (.ifCond .eq 5, 3) := by decide +kernel
theorem dX11_rests_20 : decode cX11_rests 20 = .ok (.iconst (-1), 1) := by decide +kernel
theorem dX11_rests_21 : decode cX11_rests 21 = .ok (.ireturn, 1) := by decide +kernel
theorem dX11_rests_22 : decode cX11_rests 22 = .ok (.aload_n 0, 1) := by decide +kernel
theorem dX11_rests_23 : decode cX11_rests 23 = .ok (.getfield 10, 3) := by decide +kernel
theorem dX11_rests_26 : decode cX11_rests 26 = .ok (.iconst 0, 1) := by decide +kernel
theorem dX11_rests_27 : decode cX11_rests 27 = .ok (.putfield 333, 3) := by decide +kernel
theorem dX11_rests_30 : decode cX11_rests 30 = .ok (.aload_n 0, 1) := by decide +kernel
theorem dX11_rests_31 : decode cX11_rests 31 = .ok (.getfield 19, 3) := by decide +kernel
theorem dX11_rests_34 : decode cX11_rests 34 = .ok (.aload_n 0, 1) := by decide +kernel
theorem dX11_rests_35 : decode cX11_rests 35 = .ok (.getfield 19, 3) := by decide +kernel
theorem dX11_rests_38 : decode cX11_rests 38 = .ok (.aload_n 0, 1) := by decide +kernel
theorem dX11_rests_39 : decode cX11_rests 39 = .ok (.getfield 10, 3) := by decide +kernel
theorem dX11_rests_42 : decode cX11_rests 42 = .ok (.invokestatic 248, 3) := by decide +kernel
theorem dX11_rests_45 : decode cX11_rests 45 = .ok (.invokestatic 257, 3) := by decide +kernel
theorem dX11_rests_48 : decode cX11_rests 48 = .ok (.istore_n 2, 1) := by decide +kernel
theorem dX11_rests_49 : decode cX11_rests 49 = .ok (.iload_n 2, 1) := by decide +kernel
theorem dX11_rests_50 : decode cX11_rests 50 = .ok (.aload_n 0, 1) := by decide +kernel
theorem dX11_rests_51 : decode cX11_rests 51 = .ok (.getfield 19, 3) := by decide +kernel
theorem dX11_rests_54 : decode cX11_rests 54 = .ok (.getfield 170, 3) := by decide +kernel
theorem dX11_rests_57 : decode cX11_rests 57 = .ok (.iconst 3, 1) := by decide +kernel
theorem dX11_rests_58 : decode cX11_rests 58 = .ok (.aaload, 1) := by decide +kernel
theorem dX11_rests_59 : decode cX11_rests 59 = .ok (.iload_n 1, 1) := by decide +kernel
theorem dX11_rests_60 : decode cX11_rests 60 = .ok (.iaload, 1) := by decide +kernel
theorem dX11_rests_61 : decode cX11_rests 61 = .ok (.invokestatic 336, 3) := by decide +kernel
theorem dX11_rests_64 : decode cX11_rests 64 = .ok (.ireturn, 1) := by decide +kernel
theorem dX11_nothing_0 : decode cX11_nothing 0 = .ok (.iload_n 1, 1) := by decide +kernel
theorem dX11_nothing_1 : decode cX11_nothing 1 = .ok (.ifCond .lt 8, 3) := by decide +kernel
theorem dX11_nothing_4 : decode cX11_nothing 4 = .ok (.iload_n 1, 1) := by decide +kernel
theorem dX11_nothing_5 : decode cX11_nothing 5 = .ok (.iconst 4, 1) := by decide +kernel
theorem dX11_nothing_6 : decode cX11_nothing 6 = .ok (.if_icmp .le 14, 3) := by decide +kernel
theorem dX11_nothing_9 : decode cX11_nothing 9 = .ok (.new 110, 3) := by decide +kernel
theorem dX11_nothing_12 : decode cX11_nothing 12 = .ok (.dup, 1) := by decide +kernel
theorem dX11_nothing_13 : decode cX11_nothing 13 = .ok (.ldc_w 339, 3) := by decide +kernel
theorem dX11_nothing_16 : decode cX11_nothing 16 = .ok (.invokespecial 114, 3) := by decide +kernel
theorem dX11_nothing_19 : decode cX11_nothing 19 = .ok (.athrow, 1) := by decide +kernel
theorem dX11_nothing_20 : decode cX11_nothing 20 = .ok (.aload_n 0, 1) := by decide +kernel
theorem dX11_nothing_21 : decode cX11_nothing 21 = .ok (.getfield 19, 3) := by decide +kernel
theorem dX11_nothing_24 : decode cX11_nothing 24 = .ok (.invokevirtual 341, 3) := by decide +kernel
theorem dX11_nothing_27 : decode cX11_nothing 27 = .ok (.istore_n 2, 1) := by decide +kernel
theorem dX11_nothing_28 : decode cX11_nothing 28 = .ok (.sipush 10000, 3) := by decide +kernel
theorem dX11_nothing_31 : decode cX11_nothing 31 = .ok (.istore_n 3, 1) := by decide +kernel
theorem dX11_nothing_32 : decode cX11_nothing 32 = .ok (.iconst 0, 1) := by decide +kernel
theorem dX11_nothing_33 : decode cX11_nothing 33 = .ok (.istore 4, 2) := by decide +kernel
theorem dX11_nothing_35 : decode cX11_nothing 35 = .ok (.iload 4, 2) := by decide +kernel
theorem dX11_nothing_37 : decode cX11_nothing 37 = .ok (.iload_n 1, 1) := by decide +kernel
theorem dX11_nothing_38 : decode cX11_nothing 38 = .ok (.if_icmp .ge 34, 3) := by decide +kernel
theorem dX11_nothing_41 : decode cX11_nothing 41 = .ok (.iload_n 2, 1) := by decide +kernel
theorem dX11_nothing_42 : decode cX11_nothing 42 = .ok (.ifCond .le 22, 3) := by decide +kernel
theorem dX11_nothing_45 : decode cX11_nothing 45 = .ok (.iload_n 3, 1) := by decide +kernel
theorem dX11_nothing_46 : decode cX11_nothing 46 = .ok (.aload_n 0, 1) := by decide +kernel
theorem dX11_nothing_47 : decode cX11_nothing 47 = .ok (.getfield 19, 3) := by decide +kernel
theorem dX11_nothing_50 : decode cX11_nothing 50 = .ok (.getfield 151, 3) := by decide +kernel
theorem dX11_nothing_53 : decode cX11_nothing 53 = .ok (.iconst 0, 1) := by decide +kernel
theorem dX11_nothing_54 : decode cX11_nothing 54 = .ok (.aaload, 1) := by decide +kernel
theorem dX11_nothing_55 : decode cX11_nothing 55 = .ok (.bipush 8, 2) := by decide +kernel
theorem dX11_nothing_57 : decode cX11_nothing 57 = .ok (.iaload, 1) := by decide +kernel
theorem dX11_nothing_58 : decode cX11_nothing 58 = .ok (.imul, 1) := by decide +kernel
theorem dX11_nothing_59 : decode cX11_nothing 59 = .ok (.iload_n 2, 1) := by decide +kernel
theorem dX11_nothing_60 : decode cX11_nothing 60 = .ok (.idiv, 1) := by decide +kernel
theorem dX11_nothing_61 : decode cX11_nothing 61 = .ok (.goto 4, 3) := by decide +kernel
theorem dX11_nothing_64 : decode cX11_nothing 64 = .ok (.iconst 0, 1) := by decide +kernel
theorem dX11_nothing_65 : decode cX11_nothing 65 = .ok (.istore_n 3, 1) := by decide +kernel
theorem dX11_nothing_66 : decode cX11_nothing 66 = .ok (.iinc 4 1, 3) := by decide +kernel
theorem dX11_nothing_69 : decode cX11_nothing 69 = .ok (.goto (-34), 3) := by decide +kernel
theorem dX11_nothing_72 : decode cX11_nothing 72 = .ok (.iload_n 3, 1) := by decide +kernel
theorem dX11_nothing_73 : decode cX11_nothing 73 = .ok (.ireturn, 1) := by decide +kernel
theorem dX11_shut_0 : decode cX11_shut 0 = .ok (.aload_n 0, 1) := by decide +kernel
theorem dX11_shut_1 : decode cX11_shut 1 = .ok (.getfield 19, 3) := by decide +kernel
theorem dX11_shut_4 : decode cX11_shut 4 = .ok (.iconst 2, 1) := by decide +kernel
theorem dX11_shut_5 : decode cX11_shut 5 = .ok (.bipush 31, 2) := by decide +kernel
theorem dX11_shut_7 : decode cX11_shut 7 = .ok (.invokevirtual 275, 3) := by decide +kernel
theorem dX11_shut_10 : decode cX11_shut 10 = .ok (.ireturn, 1) := by decide +kernel
theorem dX11_open_0 : decode cX11_open 0 = .ok (.aload_n 0, 1) := by decide +kernel
theorem dX11_open_1 : decode cX11_open 1 = .ok (.getfield 19, 3) := by decide +kernel
theorem dX11_open_4 : decode cX11_open 4 = .ok (.bipush 7, 2) := by decide +kernel
theorem dX11_open_6 : decode cX11_open 6 = .ok (.iconst 1, 1) := by decide +kernel
theorem dX11_open_7 : decode cX11_open 7 = .ok (.invokevirtual 275, 3) := by decide +kernel
theorem dX11_open_10 : decode cX11_open 10 = .ok (.ireturn, 1) := by decide +kernel
theorem dX11_knotted_0 : decode cX11_knotted 0 = .ok (.aload_n 0, 1) := by decide +kernel
theorem dX11_knotted_1 : decode cX11_knotted 1 = .ok (.getfield 19, 3) := by decide +kernel
theorem dX11_knotted_4 : decode cX11_knotted 4 = .ok (.invokevirtual 344, 3) := by decide +kernel
theorem dX11_knotted_7 : decode cX11_knotted 7 = .ok (.aload_n 0, 1) := by decide +kernel
theorem dX11_knotted_8 : decode cX11_knotted 8 = .ok (.getfield 19, 3) := by decide +kernel
theorem dX11_knotted_11 : decode cX11_knotted 11 = .ok (.bipush 8, 2) := by decide +kernel
theorem dX11_knotted_13 : decode cX11_knotted 13 = .ok (.iconst (-1), 1) := by decide +kernel
theorem dX11_knotted_14 : decode cX11_knotted 14 = .ok (.invokevirtual 275, 3) := by decide +kernel
theorem dX11_knotted_17 : decode cX11_knotted 17 = .ok (.iconst (-1), 1) := by decide +kernel
theorem dX11_knotted_18 : decode cX11_knotted 18 = .ok (.ixor, 1) := by decide +kernel
theorem dX11_knotted_19 : decode cX11_knotted 19 = .ok (.iand, 1) := by decide +kernel
theorem dX11_knotted_20 : decode cX11_knotted 20 = .ok (.ireturn, 1) := by decide +kernel
theorem dX11_content_0 : decode cX11_content 0 = .ok (.iconst 0, 1) := by decide +kernel
theorem dX11_content_1 : decode cX11_content 1 = .ok (.istore_n 1, 1) := by decide +kernel
theorem dX11_content_2 : decode cX11_content 2 = .ok (.iconst 0, 1) := by decide +kernel
theorem dX11_content_3 : decode cX11_content 3 = .ok (.istore_n 2, 1) := by decide +kernel
theorem dX11_content_4 : decode cX11_content 4 = .ok (.iload_n 2, 1) := by decide +kernel
theorem dX11_content_5 : decode cX11_content 5 = .ok (.bipush 8, 2) := by decide +kernel
theorem dX11_content_7 : decode cX11_content 7 = .ok (.if_icmp .ge 31, 3) := by decide +kernel
theorem dX11_content_10 : decode cX11_content 10 = .ok (.iload_n 1, 1) := by decide +kernel
theorem dX11_content_11 : decode cX11_content 11 = .ok (.aload_n 0, 1) := by decide +kernel
theorem dX11_content_12 : decode cX11_content 12 = .ok (.getfield 19, 3) := by decide +kernel
theorem dX11_content_15 : decode cX11_content 15 = .ok (.iconst 5, 1) := by decide +kernel
theorem dX11_content_16 : decode cX11_content 16 = .ok (.iload_n 2, 1) := by decide +kernel
theorem dX11_content_17 : decode cX11_content 17 = .ok (.invokevirtual 275, 3) := by decide +kernel
theorem dX11_content_20 : decode cX11_content 20 = .ok (.aload_n 0, 1) := by decide +kernel
theorem dX11_content_21 : decode cX11_content 21 = .ok (.getfield 19, 3) := by decide +kernel
theorem dX11_content_24 : decode cX11_content 24 = .ok (.iconst 4, 1) := by decide +kernel
theorem dX11_content_25 : decode cX11_content 25 = .ok (.iload_n 2, 1) := by decide +kernel
theorem dX11_content_26 : decode cX11_content 26 = .ok (.invokevirtual 275, 3) := by decide +kernel
theorem dX11_content_29 : decode cX11_content 29 = .ok (.iand, 1) := by decide +kernel
theorem dX11_content_30 : decode cX11_content 30 = .ok (.ior, 1) := by decide +kernel
theorem dX11_content_31 : decode cX11_content 31 = .ok (.istore_n 1, 1) := by decide +kernel
theorem dX11_content_32 : decode cX11_content 32 = .ok (.iinc 2 1, 3) := by decide +kernel
theorem dX11_content_35 : decode cX11_content 35 = .ok (.goto (-31), 3) := by decide +kernel
theorem dX11_content_38 : decode cX11_content 38 = .ok (.iload_n 1, 1) := by decide +kernel
theorem dX11_content_39 : decode cX11_content 39 = .ok (.ireturn, 1) := by decide +kernel
theorem dX11_richest_0 : decode cX11_richest 0 = .ok (.iconst (-1), 1) := by decide +kernel
theorem dX11_richest_1 : decode cX11_richest 1 = .ok (.istore_n 1, 1) := by decide +kernel
theorem dX11_richest_2 : decode cX11_richest 2 = .ok (.iconst (-1), 1) := by decide +kernel
theorem dX11_richest_3 : decode cX11_richest 3 = .ok (.istore_n 2, 1) := by decide +kernel
theorem dX11_richest_4 : decode cX11_richest 4 = .ok (.iconst 0, 1) := by decide +kernel
theorem dX11_richest_5 : decode cX11_richest 5 = .ok (.istore_n 3, 1) := by decide +kernel
theorem dX11_richest_6 : decode cX11_richest 6 = .ok (.iload_n 3, 1) := by decide +kernel
theorem dX11_richest_7 : decode cX11_richest 7 = .ok (.aload_n 0, 1) := by decide +kernel
theorem dX11_richest_8 : decode cX11_richest 8 = .ok (.getfield 19, 3) := by decide +kernel
theorem dX11_richest_11 : decode cX11_richest 11 = .ok (.getfield 182, 3) := by decide +kernel
theorem dX11_richest_14 : decode cX11_richest 14 = .ok (.if_icmp .ge 30, 3) := by decide +kernel
theorem dX11_richest_17 : decode cX11_richest 17 = .ok (.aload_n 0, 1) := by decide +kernel
theorem dX11_richest_18 : decode cX11_richest 18 = .ok (.getfield 19, 3) := by decide +kernel
theorem dX11_richest_21 : decode cX11_richest 21 = .ok (.iload_n 3, 1) := by decide +kernel
theorem dX11_richest_22 : decode cX11_richest 22 = .ok (.invokevirtual 347, 3) := by decide +kernel
theorem dX11_richest_25 : decode cX11_richest 25 = .ok (.istore 4, 2) := by decide +kernel
theorem dX11_richest_27 : decode cX11_richest 27 = .ok (.iload 4, 2) := by decide +kernel
theorem dX11_richest_29 : decode cX11_richest 29 = .ok (.iload_n 2, 1) := by decide +kernel
theorem dX11_richest_30 : decode cX11_richest 30 = .ok (.if_icmp .le 8, 3) := by decide +kernel
theorem dX11_richest_33 : decode cX11_richest 33 = .ok (.iload_n 3, 1) := by decide +kernel
theorem dX11_richest_34 : decode cX11_richest 34 = .ok (.istore_n 1, 1) := by decide +kernel
theorem dX11_richest_35 : decode cX11_richest 35 = .ok (.iload 4, 2) := by decide +kernel
theorem dX11_richest_37 : decode cX11_richest 37 = .ok (.istore_n 2, 1) := by decide +kernel
theorem dX11_richest_38 : decode cX11_richest 38 = .ok (.iinc 3 1, 3) := by decide +kernel
theorem dX11_richest_41 : decode cX11_richest 41 = .ok (.goto (-35), 3) := by decide +kernel
theorem dX11_richest_44 : decode cX11_richest 44 = .ok (.iload_n 1, 1) := by decide +kernel
theorem dX11_richest_45 : decode cX11_richest 45 = .ok (.ireturn, 1) := by decide +kernel
theorem dX11_oldest_0 : decode cX11_oldest 0 = .ok (.iconst (-1), 1) := by decide +kernel
theorem dX11_oldest_1 : decode cX11_oldest 1 = .ok (.istore_n 1, 1) := by decide +kernel
theorem dX11_oldest_2 : decode cX11_oldest 2 = .ok (.iconst (-1), 1) := by decide +kernel
theorem dX11_oldest_3 : decode cX11_oldest 3 = .ok (.istore_n 2, 1) := by decide +kernel
theorem dX11_oldest_4 : decode cX11_oldest 4 = .ok (.iconst 0, 1) := by decide +kernel
theorem dX11_oldest_5 : decode cX11_oldest 5 = .ok (.istore_n 3, 1) := by decide +kernel
theorem dX11_oldest_6 : decode cX11_oldest 6 = .ok (.iload_n 3, 1) := by decide +kernel
theorem dX11_oldest_7 : decode cX11_oldest 7 = .ok (.aload_n 0, 1) := by decide +kernel
theorem dX11_oldest_8 : decode cX11_oldest 8 = .ok (.getfield 19, 3) := by decide +kernel
theorem dX11_oldest_11 : decode cX11_oldest 11 = .ok (.getfield 182, 3) := by decide +kernel
theorem dX11_oldest_14 : decode cX11_oldest 14 = .ok (.if_icmp .ge 48, 3) := by decide +kernel
theorem dX11_oldest_17 : decode cX11_oldest 17 = .ok (.aload_n 0, 1) := by decide +kernel
theorem dX11_oldest_18 : decode cX11_oldest 18 = .ok (.getfield 19, 3) := by decide +kernel
theorem dX11_oldest_21 : decode cX11_oldest 21 = .ok (.getfield 170, 3) := by decide +kernel
theorem dX11_oldest_24 : decode cX11_oldest 24 = .ok (.iconst 0, 1) := by decide +kernel
theorem dX11_oldest_25 : decode cX11_oldest 25 = .ok (.aaload, 1) := by decide +kernel
theorem dX11_oldest_26 : decode cX11_oldest 26 = .ok (.iload_n 3, 1) := by decide +kernel
theorem dX11_oldest_27 : decode cX11_oldest 27 = .ok (.iaload, 1) := by decide +kernel
theorem dX11_oldest_28 : decode cX11_oldest 28 = .ok (.istore 4, 2) := by decide +kernel
theorem dX11_oldest_30 : decode cX11_oldest 30 = .ok (.aload_n 0, 1) := by decide +kernel
theorem dX11_oldest_31 : decode cX11_oldest 31 = .ok (.getfield 19, 3) := by decide +kernel
theorem dX11_oldest_34 : decode cX11_oldest 34 = .ok (.getfield 170, 3) := by decide +kernel
theorem dX11_oldest_37 : decode cX11_oldest 37 = .ok (.bipush 7, 2) := by decide +kernel
theorem dX11_oldest_39 : decode cX11_oldest 39 = .ok (.aaload, 1) := by decide +kernel
theorem dX11_oldest_40 : decode cX11_oldest 40 = .ok (.iload_n 3, 1) := by decide +kernel
theorem dX11_oldest_41 : decode cX11_oldest 41 = .ok (.iaload, 1) := by decide +kernel
theorem dX11_oldest_42 : decode cX11_oldest 42 = .ok (.ifCond .ne 14, 3) := by decide +kernel
theorem dX11_oldest_45 : decode cX11_oldest 45 = .ok (.iload 4, 2) := by decide +kernel
theorem dX11_oldest_47 : decode cX11_oldest 47 = .ok (.iload_n 2, 1) := by decide +kernel
theorem dX11_oldest_48 : decode cX11_oldest 48 = .ok (.if_icmp .le 8, 3) := by decide +kernel
theorem dX11_oldest_51 : decode cX11_oldest 51 = .ok (.iload_n 3, 1) := by decide +kernel
theorem dX11_oldest_52 : decode cX11_oldest 52 = .ok (.istore_n 1, 1) := by decide +kernel
theorem dX11_oldest_53 : decode cX11_oldest 53 = .ok (.iload 4, 2) := by decide +kernel
theorem dX11_oldest_55 : decode cX11_oldest 55 = .ok (.istore_n 2, 1) := by decide +kernel
theorem dX11_oldest_56 : decode cX11_oldest 56 = .ok (.iinc 3 1, 3) := by decide +kernel
theorem dX11_oldest_59 : decode cX11_oldest 59 = .ok (.goto (-53), 3) := by decide +kernel
theorem dX11_oldest_62 : decode cX11_oldest 62 = .ok (.iload_n 1, 1) := by decide +kernel
theorem dX11_oldest_63 : decode cX11_oldest 63 = .ok (.ireturn, 1) := by decide +kernel
theorem dX11_twins_0 : decode cX11_twins 0 = .ok (.iconst 0, 1) := by decide +kernel
theorem dX11_twins_1 : decode cX11_twins 1 = .ok (.istore_n 1, 1) := by decide +kernel
theorem dX11_twins_2 : decode cX11_twins 2 = .ok (.iconst 0, 1) := by decide +kernel
theorem dX11_twins_3 : decode cX11_twins 3 = .ok (.istore_n 2, 1) := by decide +kernel
theorem dX11_twins_4 : decode cX11_twins 4 = .ok (.iload_n 2, 1) := by decide +kernel
theorem dX11_twins_5 : decode cX11_twins 5 = .ok (.bipush 8, 2) := by decide +kernel
theorem dX11_twins_7 : decode cX11_twins 7 = .ok (.if_icmp .ge 29, 3) := by decide +kernel
theorem dX11_twins_10 : decode cX11_twins 10 = .ok (.aload_n 0, 1) := by decide +kernel
theorem dX11_twins_11 : decode cX11_twins 11 = .ok (.getfield 19, 3) := by decide +kernel
theorem dX11_twins_14 : decode cX11_twins 14 = .ok (.iconst 5, 1) := by decide +kernel
theorem dX11_twins_15 : decode cX11_twins 15 = .ok (.iload_n 2, 1) := by decide +kernel
theorem dX11_twins_16 : decode cX11_twins 16 = .ok (.invokevirtual 288, 3) := by decide +kernel
theorem dX11_twins_19 : decode cX11_twins 19 = .ok (.istore_n 3, 1) := by decide +kernel
theorem dX11_twins_20 : decode cX11_twins 20 = .ok (.iload_n 1, 1) := by decide +kernel
theorem dX11_twins_21 : decode cX11_twins 21 = .ok (.iload_n 3, 1) := by decide +kernel
theorem dX11_twins_22 : decode cX11_twins 22 = .ok (.iload_n 3, 1) := by decide +kernel
theorem dX11_twins_23 : decode cX11_twins 23 = .ok (.iconst 1, 1) := by decide +kernel
theorem dX11_twins_24 : decode cX11_twins 24 = .ok (.isub, 1) := by decide +kernel
theorem dX11_twins_25 : decode cX11_twins 25 = .ok (.imul, 1) := by decide +kernel
theorem dX11_twins_26 : decode cX11_twins 26 = .ok (.iconst 2, 1) := by decide +kernel
theorem dX11_twins_27 : decode cX11_twins 27 = .ok (.idiv, 1) := by decide +kernel
theorem dX11_twins_28 : decode cX11_twins 28 = .ok (.iadd, 1) := by decide +kernel
theorem dX11_twins_29 : decode cX11_twins 29 = .ok (.istore_n 1, 1) := by decide +kernel
theorem dX11_twins_30 : decode cX11_twins 30 = .ok (.iinc 2 1, 3) := by decide +kernel
theorem dX11_twins_33 : decode cX11_twins 33 = .ok (.goto (-29), 3) := by decide +kernel
theorem dX11_twins_36 : decode cX11_twins 36 = .ok (.iload_n 1, 1) := by decide +kernel
theorem dX11_twins_37 : decode cX11_twins 37 = .ok (.ireturn, 1) := by decide +kernel
theorem dX11_ahead_0 : decode cX11_ahead 0 = .ok (.aload_n 0, 1) := by decide +kernel
theorem dX11_ahead_1 : decode cX11_ahead 1 = .ok (.iload_n 1, 1) := by decide +kernel
theorem dX11_ahead_2 : decode cX11_ahead 2 = .ok (.invokevirtual 155, 3) := by decide +kernel
theorem dX11_ahead_5 : decode cX11_ahead 5 = .ok (.iload_n 2, 1) := by decide +kernel
theorem dX11_ahead_6 : decode cX11_ahead 6 = .ok (.invokestatic 282, 3) := by decide +kernel
theorem dX11_ahead_9 : decode cX11_ahead 9 = .ok (.aload_n 0, 1) := by decide +kernel
theorem dX11_ahead_10 : decode cX11_ahead 10 = .ok (.iload_n 2, 1) := by decide +kernel
theorem dX11_ahead_11 : decode cX11_ahead 11 = .ok (.invokevirtual 285, 3) := by decide +kernel
theorem dX11_ahead_14 : decode cX11_ahead 14 = .ok (.aload_n 0, 1) := by decide +kernel
theorem dX11_ahead_15 : decode cX11_ahead 15 = .ok (.getfield 23, 3) := by decide +kernel
theorem dX11_ahead_18 : decode cX11_ahead 18 = .ok (.getfield 170, 3) := by decide +kernel
theorem dX11_ahead_21 : decode cX11_ahead 21 = .ok (.iconst 2, 1) := by decide +kernel
theorem dX11_ahead_22 : decode cX11_ahead 22 = .ok (.aaload, 1) := by decide +kernel
theorem dX11_ahead_23 : decode cX11_ahead 23 = .ok (.iload_n 1, 1) := by decide +kernel
theorem dX11_ahead_24 : decode cX11_ahead 24 = .ok (.iaload, 1) := by decide +kernel
theorem dX11_ahead_25 : decode cX11_ahead 25 = .ok (.ireturn, 1) := by decide +kernel
theorem dX11_trial_0 : decode cX11_trial 0 = .ok (.iload_n 1, 1) := by decide +kernel
theorem dX11_trial_1 : decode cX11_trial 1 = .ok (.invokestatic 282, 3) := by decide +kernel
theorem dX11_trial_4 : decode cX11_trial 4 = .ok (.aload_n 0, 1) := by decide +kernel
theorem dX11_trial_5 : decode cX11_trial 5 = .ok (.iload_n 1, 1) := by decide +kernel
theorem dX11_trial_6 : decode cX11_trial 6 = .ok (.aload_n 0, 1) := by decide +kernel
theorem dX11_trial_7 : decode cX11_trial 7 = .ok (.getfield 19, 3) := by decide +kernel
theorem dX11_trial_10 : decode cX11_trial 10 = .ok (.getfield 350, 3) := by decide +kernel
theorem dX11_trial_13 : decode cX11_trial 13 = .ok (.invokevirtual 353, 3) := by decide +kernel
theorem dX11_trial_16 : decode cX11_trial 16 = .ok (.iload_n 2, 1) := by decide +kernel
theorem dX11_trial_17 : decode cX11_trial 17 = .ok (.ifCond .eq 13, 3) := by decide +kernel
theorem dX11_trial_20 : decode cX11_trial 20 = .ok (.aload_n 0, 1) := by decide +kernel
theorem dX11_trial_21 : decode cX11_trial 21 = .ok (.getfield 23, 3) := by decide +kernel
theorem dX11_trial_24 : decode cX11_trial 24 = .ok (.invokevirtual 291, 3) := by decide +kernel
theorem dX11_trial_27 : decode cX11_trial 27 = .ok (.goto 13, 3) := by decide +kernel
theorem dX11_trial_30 : decode cX11_trial 30 = .ok (.aload_n 0, 1) := by decide +kernel
theorem dX11_trial_31 : decode cX11_trial 31 = .ok (.getfield 23, 3) := by decide +kernel
theorem dX11_trial_34 : decode cX11_trial 34 = .ok (.bipush 7, 2) := by decide +kernel
theorem dX11_trial_36 : decode cX11_trial 36 = .ok (.iconst 1, 1) := by decide +kernel
theorem dX11_trial_37 : decode cX11_trial 37 = .ok (.invokevirtual 275, 3) := by decide +kernel
theorem dX11_trial_40 : decode cX11_trial 40 = .ok (.ireturn, 1) := by decide +kernel
theorem dX11_span_0 : decode cX11_span 0 = .ok (.iload_n 1, 1) := by decide +kernel
theorem dX11_span_1 : decode cX11_span 1 = .ok (.invokestatic 282, 3) := by decide +kernel
theorem dX11_span_4 : decode cX11_span 4 = .ok (.iconst (-1), 1) := by decide +kernel
theorem dX11_span_5 : decode cX11_span 5 = .ok (.istore_n 3, 1) := by decide +kernel
theorem dX11_span_6 : decode cX11_span 6 = .ok (.iconst 1, 1) := by decide +kernel
theorem dX11_span_7 : decode cX11_span 7 = .ok (.istore 4, 2) := by decide +kernel
theorem dX11_span_9 : decode cX11_span 9 = .ok (.iload 4, 2) := by decide +kernel
theorem dX11_span_11 : decode cX11_span 11 = .ok (.bipush 6, 2) := by decide +kernel
theorem dX11_span_13 : decode cX11_span 13 = .ok (.if_icmp .gt 55, 3) := by decide +kernel
theorem dX11_span_16 : decode cX11_span 16 = .ok (.aload_n 0, 1) := by decide +kernel
theorem dX11_span_17 : decode cX11_span 17 = .ok (.iload_n 1, 1) := by decide +kernel
theorem dX11_span_18 : decode cX11_span 18 = .ok (.iload 4, 2) := by decide +kernel
theorem dX11_span_20 : decode cX11_span 20 = .ok (.invokevirtual 353, 3) := by decide +kernel
theorem dX11_span_23 : decode cX11_span 23 = .ok (.aload_n 0, 1) := by decide +kernel
theorem dX11_span_24 : decode cX11_span 24 = .ok (.getfield 23, 3) := by decide +kernel
theorem dX11_span_27 : decode cX11_span 27 = .ok (.bipush 7, 2) := by decide +kernel
theorem dX11_span_29 : decode cX11_span 29 = .ok (.iconst 1, 1) := by decide +kernel
theorem dX11_span_30 : decode cX11_span 30 = .ok (.invokevirtual 288, 3) := by decide +kernel
theorem dX11_span_33 : decode cX11_span 33 = .ok (.istore 5, 2) := by decide +kernel
theorem dX11_span_35 : decode cX11_span 35 = .ok (.iload_n 3, 1) := by decide +kernel
theorem dX11_span_36 : decode cX11_span 36 = .ok (.iconst (-1), 1) := by decide +kernel
theorem dX11_span_37 : decode cX11_span 37 = .ok (.if_icmp .eq 22, 3) := by decide +kernel
theorem dX11_span_40 : decode cX11_span 40 = .ok (.iload_n 2, 1) := by decide +kernel
theorem dX11_span_41 : decode cX11_span 41 = .ok (.ifCond .eq 12, 3) := by decide +kernel
theorem dX11_span_44 : decode cX11_span 44 = .ok (.iload 5, 2) := by decide +kernel
theorem dX11_span_46 : decode cX11_span 46 = .ok (.iload_n 3, 1) := by decide +kernel
theorem dX11_span_47 : decode cX11_span 47 = .ok (.if_icmp .le 15, 3) := by decide +kernel
theorem dX11_span_50 : decode cX11_span 50 = .ok (.goto 9, 3) := by decide +kernel
theorem dX11_span_53 : decode cX11_span 53 = .ok (.iload 5, 2) := by decide +kernel
theorem dX11_span_55 : decode cX11_span 55 = .ok (.iload_n 3, 1) := by decide +kernel
theorem dX11_span_56 : decode cX11_span 56 = .ok (.if_icmp .ge 6, 3) := by decide +kernel
theorem dX11_span_59 : decode cX11_span 59 = .ok (.iload 5, 2) := by decide +kernel
theorem dX11_span_61 : decode cX11_span 61 = .ok (.istore_n 3, 1) := by decide +kernel
theorem dX11_span_62 : decode cX11_span 62 = .ok (.iinc 4 1, 3) := by decide +kernel
theorem dX11_span_65 : decode cX11_span 65 = .ok (.goto (-56), 3) := by decide +kernel
theorem dX11_span_68 : decode cX11_span 68 = .ok (.iload_n 3, 1) := by decide +kernel
theorem dX11_span_69 : decode cX11_span 69 = .ok (.ireturn, 1) := by decide +kernel
theorem dX11_led_0 : decode cX11_led 0 = .ok (.aload_n 0, 1) := by decide +kernel
theorem dX11_led_1 : decode cX11_led 1 = .ok (.iload_n 1, 1) := by decide +kernel
theorem dX11_led_2 : decode cX11_led 2 = .ok (.invokevirtual 155, 3) := by decide +kernel
theorem dX11_led_5 : decode cX11_led 5 = .ok (.aload_n 0, 1) := by decide +kernel
theorem dX11_led_6 : decode cX11_led 6 = .ok (.getfield 19, 3) := by decide +kernel
theorem dX11_led_9 : decode cX11_led 9 = .ok (.iload_n 1, 1) := by decide +kernel
theorem dX11_led_10 : decode cX11_led 10 = .ok (.invokevirtual 356, 3) := by decide +kernel
theorem dX11_led_13 : decode cX11_led 13 = .ok (.istore_n 3, 1) := by decide +kernel
theorem dX11_led_14 : decode cX11_led 14 = .ok (.iload_n 3, 1) := by decide +kernel
theorem dX11_led_15 : decode cX11_led 15 = .ok (.iconst (-1), 1) := by decide +kernel
theorem dX11_led_16 : decode cX11_led 16 = .ok (.if_icmp .ne 7, 3) := by decide +kernel
theorem dX11_led_19 : decode cX11_led 19 = .ok (.iconst (-1), 1) := by decide +kernel
theorem dX11_led_20 : decode cX11_led 20 = .ok (.goto 22, 3) := by decide +kernel
theorem dX11_led_23 : decode cX11_led 23 = .ok (.aload_n 0, 1) := by decide +kernel
theorem dX11_led_24 : decode cX11_led 24 = .ok (.getfield 19, 3) := by decide +kernel
theorem dX11_led_27 : decode cX11_led 27 = .ok (.getfield 359, 3) := by decide +kernel
theorem dX11_led_30 : decode cX11_led 30 = .ok (.iload_n 2, 1) := by decide +kernel
theorem dX11_led_31 : decode cX11_led 31 = .ok (.ifCond .eq 7, 3) := by decide +kernel
theorem dX11_led_34 : decode cX11_led 34 = .ok (.iconst 2, 1) := by decide +kernel
theorem dX11_led_35 : decode cX11_led 35 = .ok (.goto 4, 3) := by decide +kernel
theorem dX11_led_38 : decode cX11_led 38 = .ok (.iconst 0, 1) := by decide +kernel
theorem dX11_led_39 : decode cX11_led 39 = .ok (.aaload, 1) := by decide +kernel
theorem dX11_led_40 : decode cX11_led 40 = .ok (.iload_n 3, 1) := by decide +kernel
theorem dX11_led_41 : decode cX11_led 41 = .ok (.iaload, 1) := by decide +kernel
theorem dX11_led_42 : decode cX11_led 42 = .ok (.ireturn, 1) := by decide +kernel
theorem dX11_log_0 : decode cX11_log 0 = .ok (.iload_n 2, 1) := by decide +kernel
theorem dX11_log_1 : decode cX11_log 1 = .ok (.ifCond .lt 8, 3) := by decide +kernel
theorem dX11_log_4 : decode cX11_log 4 = .ok (.iload_n 2, 1) := by decide +kernel
theorem dX11_log_5 : decode cX11_log 5 = .ok (.iconst 4, 1) := by decide +kernel
theorem dX11_log_6 : decode cX11_log 6 = .ok (.if_icmp .le 14, 3) := by decide +kernel
theorem dX11_log_9 : decode cX11_log 9 = .ok (.new 142, 3) := by decide +kernel
theorem dX11_log_12 : decode cX11_log 12 = .ok (.dup, 1) := by decide +kernel
theorem dX11_log_13 : decode cX11_log 13 = .ok (.ldc_w 362, 3) := by decide +kernel
theorem dX11_log_16 : decode cX11_log 16 = .ok (.invokespecial 146, 3) := by decide +kernel
theorem dX11_log_19 : decode cX11_log 19 = .ok (.athrow, 1) := by decide +kernel
theorem dX11_log_20 : decode cX11_log 20 = .ok (.iload_n 1, 1) := by decide +kernel
theorem dX11_log_21 : decode cX11_log 21 = .ok (.ifCond .lt 14, 3) := by decide +kernel
theorem dX11_log_24 : decode cX11_log 24 = .ok (.iload_n 1, 1) := by decide +kernel
theorem dX11_log_25 : decode cX11_log 25 = .ok (.aload_n 0, 1) := by decide +kernel
theorem dX11_log_26 : decode cX11_log 26 = .ok (.getfield 19, 3) := by decide +kernel
theorem dX11_log_29 : decode cX11_log 29 = .ok (.getfield 364, 3) := by decide +kernel
theorem dX11_log_32 : decode cX11_log 32 = .ok (.if_icmp .lt 5, 3) := by decide +kernel
theorem dX11_log_35 : decode cX11_log 35 = .ok (.iconst (-1), 1) := by decide +kernel
theorem dX11_log_36 : decode cX11_log 36 = .ok (.ireturn, 1) := by decide +kernel
theorem dX11_log_37 : decode cX11_log 37 = .ok (.aload_n 0, 1) := by decide +kernel
theorem dX11_log_38 : decode cX11_log 38 = .ok (.getfield 19, 3) := by decide +kernel
theorem dX11_log_41 : decode cX11_log 41 = .ok (.getfield 359, 3) := by decide +kernel
theorem dX11_log_44 : decode cX11_log 44 = .ok (.iload_n 2, 1) := by decide +kernel
theorem dX11_log_45 : decode cX11_log 45 = .ok (.aaload, 1) := by decide +kernel
theorem dX11_log_46 : decode cX11_log 46 = .ok (.aload_n 0, 1) := by decide +kernel
theorem dX11_log_47 : decode cX11_log 47 = .ok (.getfield 19, 3) := by decide +kernel
theorem dX11_log_50 : decode cX11_log 50 = .ok (.getfield 364, 3) := by decide +kernel
theorem dX11_log_53 : decode cX11_log 53 = .ok (.iconst 1, 1) := by decide +kernel
theorem dX11_log_54 : decode cX11_log 54 = .ok (.isub, 1) := by decide +kernel
theorem dX11_log_55 : decode cX11_log 55 = .ok (.iload_n 1, 1) := by decide +kernel
theorem dX11_log_56 : decode cX11_log 56 = .ok (.isub, 1) := by decide +kernel
theorem dX11_log_57 : decode cX11_log 57 = .ok (.iaload, 1) := by decide +kernel
theorem dX11_log_58 : decode cX11_log 58 = .ok (.ireturn, 1) := by decide +kernel
theorem dX11_seed_0 : decode cX11_seed 0 = .ok (.aload_n 0, 1) := by decide +kernel
theorem dX11_seed_1 : decode cX11_seed 1 = .ok (.getfield 19, 3) := by decide +kernel
theorem dX11_seed_4 : decode cX11_seed 4 = .ok (.getfield 350, 3) := by decide +kernel
theorem dX11_seed_7 : decode cX11_seed 7 = .ok (.istore_n 2, 1) := by decide +kernel
theorem dX11_seed_8 : decode cX11_seed 8 = .ok (.aload_n 0, 1) := by decide +kernel
theorem dX11_seed_9 : decode cX11_seed 9 = .ok (.getfield 19, 3) := by decide +kernel
theorem dX11_seed_12 : decode cX11_seed 12 = .ok (.iload_n 1, 1) := by decide +kernel
theorem dX11_seed_13 : decode cX11_seed 13 = .ok (.putfield 350, 3) := by decide +kernel
theorem dX11_seed_16 : decode cX11_seed 16 = .ok (.iload_n 2, 1) := by decide +kernel
theorem dX11_seed_17 : decode cX11_seed 17 = .ok (.ireturn, 1) := by decide +kernel
theorem dX11_undo_0 : decode cX11_undo 0 = .ok (.aload_n 0, 1) := by decide +kernel
theorem dX11_undo_1 : decode cX11_undo 1 = .ok (.getfield 32, 3) := by decide +kernel
theorem dX11_undo_4 : decode cX11_undo 4 = .ok (.aload_n 0, 1) := by decide +kernel
theorem dX11_undo_5 : decode cX11_undo 5 = .ok (.getfield 19, 3) := by decide +kernel
theorem dX11_undo_8 : decode cX11_undo 8 = .ok (.invokevirtual 367, 3) := by decide +kernel
theorem dX11_undo_11 : decode cX11_undo 11 = .ok (.ireturn, 1) := by decide +kernel
theorem dX11_image_0 : decode cX11_image 0 = .ok (.aload_n 0, 1) := by decide +kernel
theorem dX11_image_1 : decode cX11_image 1 = .ok (.getfield 26, 3) := by decide +kernel
theorem dX11_image_4 : decode cX11_image 4 = .ok (.aload_n 0, 1) := by decide +kernel
theorem dX11_image_5 : decode cX11_image 5 = .ok (.getfield 19, 3) := by decide +kernel
theorem dX11_image_8 : decode cX11_image 8 = .ok (.invokevirtual 103, 3) := by decide +kernel
theorem dX11_image_11 : decode cX11_image 11 = .ok (.aload_n 0, 1) := by decide +kernel
theorem dX11_image_12 : decode cX11_image 12 = .ok (.getfield 46, 3) := by decide +kernel
theorem dX11_image_15 : decode cX11_image 15 = .ok (.aload_n 0, 1) := by decide +kernel
theorem dX11_image_16 : decode cX11_image 16 = .ok (.getfield 39, 3) := by decide +kernel
theorem dX11_image_19 : decode cX11_image 19 = .ok (.invokevirtual 134, 3) := by decide +kernel
theorem dX11_image_22 : decode cX11_image 22 = .ok (.aload_n 0, 1) := by decide +kernel
theorem dX11_image_23 : decode cX11_image 23 = .ok (.iconst 1, 1) := by decide +kernel
theorem dX11_image_24 : decode cX11_image 24 = .ok (.putfield 88, 3) := by decide +kernel
theorem dX11_image_27 : decode cX11_image 27 = .ok (.return_, 1) := by decide +kernel
theorem dX11_back_0 : decode cX11_back 0 = .ok (.aload_n 0, 1) := by decide +kernel
theorem dX11_back_1 : decode cX11_back 1 = .ok (.getfield 88, 3) := by decide +kernel
theorem dX11_back_4 : decode cX11_back 4 = .ok (.ifCond .ne 5, 3) := by decide +kernel
theorem dX11_back_7 : decode cX11_back 7 = .ok (.iconst 0, 1) := by decide +kernel
theorem dX11_back_8 : decode cX11_back 8 = .ok (.ireturn, 1) := by decide +kernel
theorem dX11_back_9 : decode cX11_back 9 = .ok (.aload_n 0, 1) := by decide +kernel
theorem dX11_back_10 : decode cX11_back 10 = .ok (.getfield 19, 3) := by decide +kernel
theorem dX11_back_13 : decode cX11_back 13 = .ok (.aload_n 0, 1) := by decide +kernel
theorem dX11_back_14 : decode cX11_back 14 = .ok (.getfield 26, 3) := by decide +kernel
theorem dX11_back_17 : decode cX11_back 17 = .ok (.invokevirtual 103, 3) := by decide +kernel
theorem dX11_back_20 : decode cX11_back 20 = .ok (.aload_n 0, 1) := by decide +kernel
theorem dX11_back_21 : decode cX11_back 21 = .ok (.getfield 39, 3) := by decide +kernel
theorem dX11_back_24 : decode cX11_back 24 = .ok (.aload_n 0, 1) := by decide +kernel
theorem dX11_back_25 : decode cX11_back 25 = .ok (.getfield 46, 3) := by decide +kernel
theorem dX11_back_28 : decode cX11_back 28 = .ok (.invokevirtual 134, 3) := by decide +kernel
theorem dX11_back_31 : decode cX11_back 31 = .ok (.aload_n 0, 1) := by decide +kernel
theorem dX11_back_32 : decode cX11_back 32 = .ok (.getfield 32, 3) := by decide +kernel
theorem dX11_back_35 : decode cX11_back 35 = .ok (.invokevirtual 125, 3) := by decide +kernel
theorem dX11_back_38 : decode cX11_back 38 = .ok (.iconst 1, 1) := by decide +kernel
theorem dX11_back_39 : decode cX11_back 39 = .ok (.ireturn, 1) := by decide +kernel
theorem dX11_count_0 : decode cX11_count 0 = .ok (.iload_n 1, 1) := by decide +kernel
theorem dX11_count_1 : decode cX11_count 1 = .ok (.tableswitch 153 0 9 #[55, 63, 71, 79, 87, 100, 121, 129, 137, 145], 55) := by decide +kernel
theorem dX11_count_56 : decode cX11_count 56 = .ok (.aload_n 0, 1) := by decide +kernel
theorem dX11_count_57 : decode cX11_count 57 = .ok (.getfield 19, 3) := by decide +kernel
theorem dX11_count_60 : decode cX11_count 60 = .ok (.getfield 182, 3) := by decide +kernel
theorem dX11_count_63 : decode cX11_count 63 = .ok (.ireturn, 1) := by decide +kernel
theorem dX11_count_64 : decode cX11_count 64 = .ok (.aload_n 0, 1) := by decide +kernel
theorem dX11_count_65 : decode cX11_count 65 = .ok (.getfield 19, 3) := by decide +kernel
theorem dX11_count_68 : decode cX11_count 68 = .ok (.getfield 117, 3) := by decide +kernel
theorem dX11_count_71 : decode cX11_count 71 = .ok (.ireturn, 1) := by decide +kernel
theorem dX11_count_72 : decode cX11_count 72 = .ok (.aload_n 0, 1) := by decide +kernel
theorem dX11_count_73 : decode cX11_count 73 = .ok (.getfield 39, 3) := by decide +kernel
theorem dX11_count_76 : decode cX11_count 76 = .ok (.getfield 136, 3) := by decide +kernel
theorem dX11_count_79 : decode cX11_count 79 = .ok (.ireturn, 1) := by decide +kernel
theorem dX11_count_80 : decode cX11_count 80 = .ok (.aload_n 0, 1) := by decide +kernel
theorem dX11_count_81 : decode cX11_count 81 = .ok (.getfield 19, 3) := by decide +kernel
theorem dX11_count_84 : decode cX11_count 84 = .ok (.getfield 371, 3) := by decide +kernel
theorem dX11_count_87 : decode cX11_count 87 = .ok (.ireturn, 1) := by decide +kernel
theorem dX11_count_88 : decode cX11_count 88 = .ok (.aload_n 0, 1) := by decide +kernel
theorem dX11_count_89 : decode cX11_count 89 = .ok (.getfield 19, 3) := by decide +kernel
theorem dX11_count_92 : decode cX11_count 92 = .ok (.getfield 151, 3) := by decide +kernel
theorem dX11_count_95 : decode cX11_count 95 = .ok (.iconst 0, 1) := by decide +kernel
theorem dX11_count_96 : decode cX11_count 96 = .ok (.aaload, 1) := by decide +kernel
theorem dX11_count_97 : decode cX11_count 97 = .ok (.bipush 8, 2) := by decide +kernel
theorem dX11_count_99 : decode cX11_count 99 = .ok (.iaload, 1) := by decide +kernel
theorem dX11_count_100 : decode cX11_count 100 = .ok (.ireturn, 1) := by decide +kernel
theorem dX11_count_101 : decode cX11_count 101 = .ok (.aload_n 0, 1) := by decide +kernel
theorem dX11_count_102 : decode cX11_count 102 = .ok (.getfield 19, 3) := by decide +kernel
theorem dX11_count_105 : decode cX11_count 105 = .ok (.invokevirtual 341, 3) := by decide +kernel
theorem dX11_count_108 : decode cX11_count 108 = .ok (.aload_n 0, 1) := by decide +kernel
theorem dX11_count_109 : decode cX11_count 109 = .ok (.getfield 19, 3) := by decide +kernel
theorem dX11_count_112 : decode cX11_count 112 = .ok (.getfield 151, 3) := by decide +kernel
theorem dX11_count_115 : decode cX11_count 115 = .ok (.iconst 0, 1) := by decide +kernel
theorem dX11_count_116 : decode cX11_count 116 = .ok (.aaload, 1) := by decide +kernel
theorem dX11_count_117 : decode cX11_count 117 = .ok (.bipush 8, 2) := by decide +kernel
theorem dX11_count_119 : decode cX11_count 119 = .ok (.iaload, 1) := by decide +kernel
theorem dX11_count_120 : decode cX11_count 120 = .ok (.isub, 1) := by decide +kernel
theorem dX11_count_121 : decode cX11_count 121 = .ok (.ireturn, 1) := by decide +kernel
theorem dX11_count_122 : decode cX11_count 122 = .ok (.aload_n 0, 1) := by decide +kernel
theorem dX11_count_123 : decode cX11_count 123 = .ok (.getfield 19, 3) := by decide +kernel
theorem dX11_count_126 : decode cX11_count 126 = .ok (.invokevirtual 291, 3) := by decide +kernel
theorem dX11_count_129 : decode cX11_count 129 = .ok (.ireturn, 1) := by decide +kernel
theorem dX11_count_130 : decode cX11_count 130 = .ok (.aload_n 0, 1) := by decide +kernel
theorem dX11_count_131 : decode cX11_count 131 = .ok (.getfield 19, 3) := by decide +kernel
theorem dX11_count_134 : decode cX11_count 134 = .ok (.invokevirtual 374, 3) := by decide +kernel
theorem dX11_count_137 : decode cX11_count 137 = .ok (.ireturn, 1) := by decide +kernel
theorem dX11_count_138 : decode cX11_count 138 = .ok (.aload_n 0, 1) := by decide +kernel
theorem dX11_count_139 : decode cX11_count 139 = .ok (.getfield 19, 3) := by decide +kernel
theorem dX11_count_142 : decode cX11_count 142 = .ok (.getfield 364, 3) := by decide +kernel
theorem dX11_count_145 : decode cX11_count 145 = .ok (.ireturn, 1) := by decide +kernel
theorem dX11_count_146 : decode cX11_count 146 = .ok (.aload_n 0, 1) := by decide +kernel
theorem dX11_count_147 : decode cX11_count 147 = .ok (.getfield 32, 3) := by decide +kernel
theorem dX11_count_150 : decode cX11_count 150 = .ok (.getfield 377, 3) := by decide +kernel
theorem dX11_count_153 : decode cX11_count 153 = .ok (.ireturn, 1) := by decide +kernel
theorem dX11_count_154 : decode cX11_count 154 = .ok (.iconst (-1), 1) := by decide +kernel
theorem dX11_count_155 : decode cX11_count 155 = .ok (.ireturn, 1) := by decide +kernel
theorem dX11_needChild_0 : decode cX11_needChild 0 = .ok (.iload_n 1, 1) := by decide +kernel
theorem dX11_needChild_1 : decode cX11_needChild 1 = .ok (.ifCond .lt 14, 3) := by decide +kernel
theorem dX11_needChild_4 : decode cX11_needChild 4 = .ok (.iload_n 1, 1) := by decide +kernel
theorem dX11_needChild_5 : decode cX11_needChild 5 = .ok (.aload_n 0, 1) := by decide +kernel
theorem dX11_needChild_6 : decode cX11_needChild 6 = .ok (.getfield 19, 3) := by decide +kernel
theorem dX11_needChild_9 : decode cX11_needChild 9 = .ok (.getfield 182, 3) := by decide +kernel
theorem dX11_needChild_12 : decode cX11_needChild 12 = .ok (.if_icmp .lt 14, 3) := by decide +kernel
theorem dX11_needChild_15 : decode cX11_needChild 15 = .ok (.new 197, 3) := by decide +kernel
theorem dX11_needChild_18 : decode cX11_needChild 18 = .ok (.dup, 1) := by decide +kernel
theorem dX11_needChild_19 : decode cX11_needChild 19 = .ok (.ldc_w 378, 3) := by decide +kernel
theorem dX11_needChild_22 : decode cX11_needChild 22 = .ok (.invokespecial 201, 3) := by decide +kernel
theorem dX11_needChild_25 : decode cX11_needChild 25 = .ok (.athrow, 1) := by decide +kernel
theorem dX11_needChild_26 : decode cX11_needChild 26 = .ok (.return_, 1) := by decide +kernel
theorem dX11_needTwo_0 : decode cX11_needTwo 0 = .ok (.aload_n 0, 1) := by decide +kernel
theorem dX11_needTwo_1 : decode cX11_needTwo 1 = .ok (.iload_n 1, 1) := by decide +kernel
theorem dX11_needTwo_2 : decode cX11_needTwo 2 = .ok (.invokevirtual 155, 3) := by decide +kernel
theorem dX11_needTwo_5 : decode cX11_needTwo 5 = .ok (.aload_n 0, 1) := by decide +kernel
theorem dX11_needTwo_6 : decode cX11_needTwo 6 = .ok (.iload_n 2, 1) := by decide +kernel
theorem dX11_needTwo_7 : decode cX11_needTwo 7 = .ok (.invokevirtual 155, 3) := by decide +kernel
theorem dX11_needTwo_10 : decode cX11_needTwo 10 = .ok (.iload_n 1, 1) := by decide +kernel
theorem dX11_needTwo_11 : decode cX11_needTwo 11 = .ok (.iload_n 2, 1) := by decide +kernel
theorem dX11_needTwo_12 : decode cX11_needTwo 12 = .ok (.if_icmp .ne 14, 3) := by decide +kernel
theorem dX11_needTwo_15 : decode cX11_needTwo 15 = .ok (.new 110, 3) := by decide +kernel
theorem dX11_needTwo_18 : decode cX11_needTwo 18 = .ok (.dup, 1) := by decide +kernel
theorem dX11_needTwo_19 : decode cX11_needTwo 19 = .ok (.ldc_w 380, 3) := by decide +kernel
theorem dX11_needTwo_22 : decode cX11_needTwo 22 = .ok (.invokespecial 114, 3) := by decide +kernel
theorem dX11_needTwo_25 : decode cX11_needTwo 25 = .ok (.athrow, 1) := by decide +kernel
theorem dX11_needTwo_26 : decode cX11_needTwo 26 = .ok (.return_, 1) := by decide +kernel
theorem dX11_needThing_0 : decode cX11_needThing 0 = .ok (.iload_n 0, 1) := by decide +kernel
theorem dX11_needThing_1 : decode cX11_needThing 1 = .ok (.ifCond .lt 9, 3) := by decide +kernel
theorem dX11_needThing_4 : decode cX11_needThing 4 = .ok (.iload_n 0, 1) := by decide +kernel
theorem dX11_needThing_5 : decode cX11_needThing 5 = .ok (.bipush 8, 2) := by decide +kernel
theorem dX11_needThing_7 : decode cX11_needThing 7 = .ok (.if_icmp .lt 14, 3) := by decide +kernel
theorem dX11_needThing_10 : decode cX11_needThing 10 = .ok (.new 197, 3) := by decide +kernel
theorem dX11_needThing_13 : decode cX11_needThing 13 = .ok (.dup, 1) := by decide +kernel
theorem dX11_needThing_14 : decode cX11_needThing 14 = .ok (.ldc_w 264, 3) := by decide +kernel
theorem dX11_needThing_17 : decode cX11_needThing 17 = .ok (.invokespecial 201, 3) := by decide +kernel
theorem dX11_needThing_20 : decode cX11_needThing 20 = .ok (.athrow, 1) := by decide +kernel
theorem dX11_needThing_21 : decode cX11_needThing 21 = .ok (.return_, 1) := by decide +kernel
theorem dX11_needAhead_0 : decode cX11_needAhead 0 = .ok (.iload_n 0, 1) := by decide +kernel
theorem dX11_needAhead_1 : decode cX11_needAhead 1 = .ok (.ifCond .lt 9, 3) := by decide +kernel
theorem dX11_needAhead_4 : decode cX11_needAhead 4 = .ok (.iload_n 0, 1) := by decide +kernel
theorem dX11_needAhead_5 : decode cX11_needAhead 5 = .ok (.bipush 100, 2) := by decide +kernel
theorem dX11_needAhead_7 : decode cX11_needAhead 7 = .ok (.if_icmp .le 14, 3) := by decide +kernel
theorem dX11_needAhead_10 : decode cX11_needAhead 10 = .ok (.new 110, 3) := by decide +kernel
theorem dX11_needAhead_13 : decode cX11_needAhead 13 = .ok (.dup, 1) := by decide +kernel
theorem dX11_needAhead_14 : decode cX11_needAhead 14 = .ok (.ldc_w 382, 3) := by decide +kernel
theorem dX11_needAhead_17 : decode cX11_needAhead 17 = .ok (.invokespecial 114, 3) := by decide +kernel
theorem dX11_needAhead_20 : decode cX11_needAhead 20 = .ok (.athrow, 1) := by decide +kernel
theorem dX11_needAhead_21 : decode cX11_needAhead 21 = .ok (.return_, 1) := by decide +kernel
theorem dX11_takeFeels_0 : decode cX11_takeFeels 0 = .ok (.aload_n 0, 1) := by decide +kernel
theorem dX11_takeFeels_1 : decode cX11_takeFeels 1 = .ok (.getfield 10, 3) := by decide +kernel
theorem dX11_takeFeels_4 : decode cX11_takeFeels 4 = .ok (.iconst 2, 1) := by decide +kernel
theorem dX11_takeFeels_5 : decode cX11_takeFeels 5 = .ok (.bipush 10, 2) := by decide +kernel
theorem dX11_takeFeels_7 : decode cX11_takeFeels 7 = .ok (.invokevirtual 384, 3) := by decide +kernel
theorem dX11_takeFeels_10 : decode cX11_takeFeels 10 = .ok (.ireturn, 1) := by decide +kernel
theorem dX11_needFeels_0 : decode cX11_needFeels 0 = .ok (.aload_n 0, 1) := by decide +kernel
theorem dX11_needFeels_1 : decode cX11_needFeels 1 = .ok (.invokevirtual 260, 3) := by decide +kernel
theorem dX11_needFeels_4 : decode cX11_needFeels 4 = .ok (.ifCond .ne 14, 3) := by decide +kernel
theorem dX11_needFeels_7 : decode cX11_needFeels 7 = .ok (.new 110, 3) := by decide +kernel
theorem dX11_needFeels_10 : decode cX11_needFeels 10 = .ok (.dup, 1) := by decide +kernel
theorem dX11_needFeels_11 : decode cX11_needFeels 11 = .ok (.ldc_w 266, 3) := by decide +kernel
theorem dX11_needFeels_14 : decode cX11_needFeels 14 = .ok (.invokespecial 114, 3) := by decide +kernel
theorem dX11_needFeels_17 : decode cX11_needFeels 17 = .ok (.athrow, 1) := by decide +kernel
theorem dX11_needFeels_18 : decode cX11_needFeels 18 = .ok (.return_, 1) := by decide +kernel
theorem dX11_needLives_0 : decode cX11_needLives 0 = .ok (.aload_n 0, 1) := by decide +kernel
theorem dX11_needLives_1 : decode cX11_needLives 1 = .ok (.getfield 10, 3) := by decide +kernel
theorem dX11_needLives_4 : decode cX11_needLives 4 = .ok (.bipush 7, 2) := by decide +kernel
theorem dX11_needLives_6 : decode cX11_needLives 6 = .ok (.sipush 255, 3) := by decide +kernel
theorem dX11_needLives_9 : decode cX11_needLives 9 = .ok (.invokevirtual 384, 3) := by decide +kernel
theorem dX11_needLives_12 : decode cX11_needLives 12 = .ok (.ifCond .ne 14, 3) := by decide +kernel
theorem dX11_needLives_15 : decode cX11_needLives 15 = .ok (.new 110, 3) := by decide +kernel
theorem dX11_needLives_18 : decode cX11_needLives 18 = .ok (.dup, 1) := by decide +kernel
theorem dX11_needLives_19 : decode cX11_needLives 19 = .ok (.ldc_w 387, 3) := by decide +kernel
theorem dX11_needLives_22 : decode cX11_needLives 22 = .ok (.invokespecial 114, 3) := by decide +kernel
theorem dX11_needLives_25 : decode cX11_needLives 25 = .ok (.athrow, 1) := by decide +kernel
theorem dX11_needLives_26 : decode cX11_needLives 26 = .ok (.return_, 1) := by decide +kernel
theorem dX11_tellFact_0 : decode cX11_tellFact 0 = .ok (.aload_n 0, 1) := by decide +kernel
theorem dX11_tellFact_1 : decode cX11_tellFact 1 = .ok (.getfield 32, 3) := by decide +kernel
theorem dX11_tellFact_4 : decode cX11_tellFact 4 = .ok (.aload_n 0, 1) := by decide +kernel
theorem dX11_tellFact_5 : decode cX11_tellFact 5 = .ok (.getfield 19, 3) := by decide +kernel
theorem dX11_tellFact_8 : decode cX11_tellFact 8 = .ok (.invokevirtual 175, 3) := by decide +kernel
theorem dX11_tellFact_11 : decode cX11_tellFact 11 = .ok (.aload_n 0, 1) := by decide +kernel
theorem dX11_tellFact_12 : decode cX11_tellFact 12 = .ok (.getfield 19, 3) := by decide +kernel
theorem dX11_tellFact_15 : decode cX11_tellFact 15 = .ok (.getfield 170, 3) := by decide +kernel
theorem dX11_tellFact_18 : decode cX11_tellFact 18 = .ok (.iload_n 1, 1) := by decide +kernel
theorem dX11_tellFact_19 : decode cX11_tellFact 19 = .ok (.aaload, 1) := by decide +kernel
theorem dX11_tellFact_20 : decode cX11_tellFact 20 = .ok (.iload_n 2, 1) := by decide +kernel
theorem dX11_tellFact_21 : decode cX11_tellFact 21 = .ok (.iaload, 1) := by decide +kernel
theorem dX11_tellFact_22 : decode cX11_tellFact 22 = .ok (.istore 4, 2) := by decide +kernel
theorem dX11_tellFact_24 : decode cX11_tellFact 24 = .ok (.aload_n 0, 1) := by decide +kernel
theorem dX11_tellFact_25 : decode cX11_tellFact 25 = .ok (.getfield 19, 3) := by decide +kernel
theorem dX11_tellFact_28 : decode cX11_tellFact 28 = .ok (.getfield 170, 3) := by decide +kernel
theorem dX11_tellFact_31 : decode cX11_tellFact 31 = .ok (.iload_n 1, 1) := by decide +kernel
theorem dX11_tellFact_32 : decode cX11_tellFact 32 = .ok (.aaload, 1) := by decide +kernel
theorem dX11_tellFact_33 : decode cX11_tellFact 33 = .ok (.iload_n 2, 1) := by decide +kernel
theorem dX11_tellFact_34 : decode cX11_tellFact 34 = .ok (.iload_n 3, 1) := by decide +kernel
theorem dX11_tellFact_35 : decode cX11_tellFact 35 = .ok (.iastore, 1) := by decide +kernel
theorem dX11_tellFact_36 : decode cX11_tellFact 36 = .ok (.iload 4, 2) := by decide +kernel
theorem dX11_tellFact_38 : decode cX11_tellFact 38 = .ok (.ireturn, 1) := by decide +kernel
theorem dX11_goAhead_0 : decode cX11_goAhead 0 = .ok (.aload_n 0, 1) := by decide +kernel
theorem dX11_goAhead_1 : decode cX11_goAhead 1 = .ok (.getfield 23, 3) := by decide +kernel
theorem dX11_goAhead_4 : decode cX11_goAhead 4 = .ok (.aload_n 0, 1) := by decide +kernel
theorem dX11_goAhead_5 : decode cX11_goAhead 5 = .ok (.getfield 19, 3) := by decide +kernel
theorem dX11_goAhead_8 : decode cX11_goAhead 8 = .ok (.invokevirtual 103, 3) := by decide +kernel
theorem dX11_goAhead_11 : decode cX11_goAhead 11 = .ok (.iconst 0, 1) := by decide +kernel
theorem dX11_goAhead_12 : decode cX11_goAhead 12 = .ok (.istore_n 2, 1) := by decide +kernel
theorem dX11_goAhead_13 : decode cX11_goAhead 13 = .ok (.iload_n 2, 1) := by decide +kernel
theorem dX11_goAhead_14 : decode cX11_goAhead 14 = .ok (.iload_n 1, 1) := by decide +kernel
theorem dX11_goAhead_15 : decode cX11_goAhead 15 = .ok (.if_icmp .ge 22, 3) := by decide +kernel
theorem dX11_goAhead_18 : decode cX11_goAhead 18 = .ok (.aload_n 0, 1) := by decide +kernel
theorem dX11_goAhead_19 : decode cX11_goAhead 19 = .ok (.getfield 23, 3) := by decide +kernel
theorem dX11_goAhead_22 : decode cX11_goAhead 22 = .ok (.aload_n 0, 1) := by decide +kernel
theorem dX11_goAhead_23 : decode cX11_goAhead 23 = .ok (.getfield 39, 3) := by decide +kernel
theorem dX11_goAhead_26 : decode cX11_goAhead 26 = .ok (.iconst 0, 1) := by decide +kernel
theorem dX11_goAhead_27 : decode cX11_goAhead 27 = .ok (.invokevirtual 178, 3) := by decide +kernel
theorem dX11_goAhead_30 : decode cX11_goAhead 30 = .ok (.pop, 1) := by decide +kernel
theorem dX11_goAhead_31 : decode cX11_goAhead 31 = .ok (.iinc 2 1, 3) := by decide +kernel
theorem dX11_goAhead_34 : decode cX11_goAhead 34 = .ok (.goto (-21), 3) := by decide +kernel
theorem dX11_goAhead_37 : decode cX11_goAhead 37 = .ok (.return_, 1) := by decide +kernel
theorem dX11_tryMonths_0 : decode cX11_tryMonths 0 = .ok (.aload_n 0, 1) := by decide +kernel
theorem dX11_tryMonths_1 : decode cX11_tryMonths 1 = .ok (.getfield 23, 3) := by decide +kernel
theorem dX11_tryMonths_4 : decode cX11_tryMonths 4 = .ok (.aload_n 0, 1) := by decide +kernel
theorem dX11_tryMonths_5 : decode cX11_tryMonths 5 = .ok (.getfield 19, 3) := by decide +kernel
theorem dX11_tryMonths_8 : decode cX11_tryMonths 8 = .ok (.invokevirtual 103, 3) := by decide +kernel
theorem dX11_tryMonths_11 : decode cX11_tryMonths 11 = .ok (.aload_n 0, 1) := by decide +kernel
theorem dX11_tryMonths_12 : decode cX11_tryMonths 12 = .ok (.getfield 23, 3) := by decide +kernel
theorem dX11_tryMonths_15 : decode cX11_tryMonths 15 = .ok (.iload_n 2, 1) := by decide +kernel
theorem dX11_tryMonths_16 : decode cX11_tryMonths 16 = .ok (.putfield 350, 3) := by decide +kernel
theorem dX11_tryMonths_19 : decode cX11_tryMonths 19 = .ok (.iconst 0, 1) := by decide +kernel
theorem dX11_tryMonths_20 : decode cX11_tryMonths 20 = .ok (.istore_n 3, 1) := by decide +kernel
theorem dX11_tryMonths_21 : decode cX11_tryMonths 21 = .ok (.iload_n 3, 1) := by decide +kernel
theorem dX11_tryMonths_22 : decode cX11_tryMonths 22 = .ok (.iload_n 1, 1) := by decide +kernel
theorem dX11_tryMonths_23 : decode cX11_tryMonths 23 = .ok (.if_icmp .ge 22, 3) := by decide +kernel
theorem dX11_tryMonths_26 : decode cX11_tryMonths 26 = .ok (.aload_n 0, 1) := by decide +kernel
theorem dX11_tryMonths_27 : decode cX11_tryMonths 27 = .ok (.getfield 23, 3) := by decide +kernel
theorem dX11_tryMonths_30 : decode cX11_tryMonths 30 = .ok (.aload_n 0, 1) := by decide +kernel
theorem dX11_tryMonths_31 : decode cX11_tryMonths 31 = .ok (.getfield 39, 3) := by decide +kernel
theorem dX11_tryMonths_34 : decode cX11_tryMonths 34 = .ok (.iconst 1, 1) := by decide +kernel
theorem dX11_tryMonths_35 : decode cX11_tryMonths 35 = .ok (.invokevirtual 178, 3) := by decide +kernel
theorem dX11_tryMonths_38 : decode cX11_tryMonths 38 = .ok (.pop, 1) := by decide +kernel
theorem dX11_tryMonths_39 : decode cX11_tryMonths 39 = .ok (.iinc 3 1, 3) := by decide +kernel
theorem dX11_tryMonths_42 : decode cX11_tryMonths 42 = .ok (.goto (-21), 3) := by decide +kernel
theorem dX11_tryMonths_45 : decode cX11_tryMonths 45 = .ok (.return_, 1) := by decide +kernel
theorem dX11_leastOf_0 : decode cX11_leastOf 0 = .ok (.iconst 0, 1) := by decide +kernel
theorem dX11_leastOf_1 : decode cX11_leastOf 1 = .ok (.istore_n 1, 1) := by decide +kernel
theorem dX11_leastOf_2 : decode cX11_leastOf 2 = .ok (.iload_n 1, 1) := by decide +kernel
theorem dX11_leastOf_3 : decode cX11_leastOf 3 = .ok (.bipush 8, 2) := by decide +kernel
theorem dX11_leastOf_5 : decode cX11_leastOf 5 = .ok (.if_icmp .ge 19, 3) := by decide +kernel
theorem dX11_leastOf_8 : decode cX11_leastOf 8 = .ok (.iload_n 0, 1) := by decide +kernel
theorem dX11_leastOf_9 : decode cX11_leastOf 9 = .ok (.iload_n 1, 1) := by decide +kernel
theorem dX11_leastOf_10 : decode cX11_leastOf 10 = .ok (.ishr, 1) := by decide +kernel
theorem dX11_leastOf_11 : decode cX11_leastOf 11 = .ok (.iconst 1, 1) := by decide +kernel
theorem dX11_leastOf_12 : decode cX11_leastOf 12 = .ok (.iand, 1) := by decide +kernel
theorem dX11_leastOf_13 : decode cX11_leastOf 13 = .ok (.ifCond .eq 5, 3) := by decide +kernel
theorem dX11_leastOf_16 : decode cX11_leastOf 16 = .ok (.iload_n 1, 1) := by decide +kernel
theorem dX11_leastOf_17 : decode cX11_leastOf 17 = .ok (.ireturn, 1) := by decide +kernel
theorem dX11_leastOf_18 : decode cX11_leastOf 18 = .ok (.iinc 1 1, 3) := by decide +kernel
theorem dX11_leastOf_21 : decode cX11_leastOf 21 = .ok (.goto (-19), 3) := by decide +kernel
theorem dX11_leastOf_24 : decode cX11_leastOf 24 = .ok (.iconst (-1), 1) := by decide +kernel
theorem dX11_leastOf_25 : decode cX11_leastOf 25 = .ok (.ireturn, 1) := by decide +kernel
theorem dX11_restingChoices_0 : decode cX11_restingChoices 0 = .ok (.iconst 0, 1) := by decide +kernel
theorem dX11_restingChoices_1 : decode cX11_restingChoices 1 = .ok (.istore_n 2, 1) := by decide +kernel
theorem dX11_restingChoices_2 : decode cX11_restingChoices 2 = .ok (.iconst 0, 1) := by decide +kernel
theorem dX11_restingChoices_3 : decode cX11_restingChoices 3 = .ok (.istore_n 3, 1) := by decide +kernel
theorem dX11_restingChoices_4 : decode cX11_restingChoices 4 = .ok (.iload_n 3, 1) := by decide +kernel
theorem dX11_restingChoices_5 : decode cX11_restingChoices 5 = .ok (.iconst 4, 1) := by decide +kernel
theorem dX11_restingChoices_6 : decode cX11_restingChoices 6 = .ok (.if_icmp .ge 69, 3) := by decide +kernel
theorem dX11_restingChoices_9 : decode cX11_restingChoices 9 = .ok (.iload_n 3, 1) := by decide +kernel
theorem dX11_restingChoices_10 : decode cX11_restingChoices 10 = .ok (.iload_n 0, 1) := by decide +kernel
theorem dX11_restingChoices_11 : decode cX11_restingChoices 11 = .ok (.iload_n 1, 1) := by decide +kernel
theorem dX11_restingChoices_12 : decode cX11_restingChoices 12 = .ok (.invokestatic 389, 3) := by decide +kernel
theorem dX11_restingChoices_15 : decode cX11_restingChoices 15 = .ok (.iload_n 3, 1) := by decide +kernel
theorem dX11_restingChoices_16 : decode cX11_restingChoices 16 = .ok (.iconst 2, 1) := by decide +kernel
theorem dX11_restingChoices_17 : decode cX11_restingChoices 17 = .ok (.ixor, 1) := by decide +kernel
theorem dX11_restingChoices_18 : decode cX11_restingChoices 18 = .ok (.iload_n 0, 1) := by decide +kernel
theorem dX11_restingChoices_19 : decode cX11_restingChoices 19 = .ok (.iload_n 1, 1) := by decide +kernel
theorem dX11_restingChoices_20 : decode cX11_restingChoices 20 = .ok (.invokestatic 389, 3) := by decide +kernel
theorem dX11_restingChoices_23 : decode cX11_restingChoices 23 = .ok (.if_icmp .lt 7, 3) := by decide +kernel
theorem dX11_restingChoices_26 : decode cX11_restingChoices 26 = .ok (.iconst 1, 1) := by decide +kernel
theorem dX11_restingChoices_27 : decode cX11_restingChoices 27 = .ok (.goto 4, 3) := by decide +kernel
theorem dX11_restingChoices_30 : decode cX11_restingChoices 30 = .ok (.iconst 0, 1) := by decide +kernel
theorem dX11_restingChoices_31 : decode cX11_restingChoices 31 = .ok (.istore 4, 2) := by decide +kernel
theorem dX11_restingChoices_33 : decode cX11_restingChoices 33 = .ok (.iload_n 3, 1) := by decide +kernel
theorem dX11_restingChoices_34 : decode cX11_restingChoices 34 = .ok (.invokestatic 392, 3) := by decide +kernel
theorem dX11_restingChoices_37 : decode cX11_restingChoices 37 = .ok (.iload_n 3, 1) := by decide +kernel
theorem dX11_restingChoices_38 : decode cX11_restingChoices 38 = .ok (.iconst 1, 1) := by decide +kernel
theorem dX11_restingChoices_39 : decode cX11_restingChoices 39 = .ok (.ixor, 1) := by decide +kernel
theorem dX11_restingChoices_40 : decode cX11_restingChoices 40 = .ok (.invokestatic 392, 3) := by decide +kernel
theorem dX11_restingChoices_43 : decode cX11_restingChoices 43 = .ok (.if_icmp .lt 7, 3) := by decide +kernel
theorem dX11_restingChoices_46 : decode cX11_restingChoices 46 = .ok (.iconst 1, 1) := by decide +kernel
theorem dX11_restingChoices_47 : decode cX11_restingChoices 47 = .ok (.goto 4, 3) := by decide +kernel
theorem dX11_restingChoices_50 : decode cX11_restingChoices 50 = .ok (.iconst 0, 1) := by decide +kernel
theorem dX11_restingChoices_51 : decode cX11_restingChoices 51 = .ok (.istore 5, 2) := by decide +kernel
theorem dX11_restingChoices_53 : decode cX11_restingChoices 53 = .ok (.iload 4, 2) := by decide +kernel
theorem dX11_restingChoices_55 : decode cX11_restingChoices 55 = .ok (.ifCond .eq 14, 3) := by decide +kernel
theorem dX11_restingChoices_58 : decode cX11_restingChoices 58 = .ok (.iload 5, 2) := by decide +kernel
theorem dX11_restingChoices_60 : decode cX11_restingChoices 60 = .ok (.ifCond .eq 9, 3) := by decide +kernel
theorem dX11_restingChoices_63 : decode cX11_restingChoices 63 = .ok (.iload_n 2, 1) := by decide +kernel
theorem dX11_restingChoices_64 : decode cX11_restingChoices 64 = .ok (.iconst 1, 1) := by decide +kernel
theorem dX11_restingChoices_65 : decode cX11_restingChoices 65 = .ok (.iload_n 3, 1) := by decide +kernel
theorem dX11_restingChoices_66 : decode cX11_restingChoices 66 = .ok (.ishl, 1) := by decide +kernel
theorem dX11_restingChoices_67 : decode cX11_restingChoices 67 = .ok (.ior, 1) := by decide +kernel
theorem dX11_restingChoices_68 : decode cX11_restingChoices 68 = .ok (.istore_n 2, 1) := by decide +kernel
theorem dX11_restingChoices_69 : decode cX11_restingChoices 69 = .ok (.iinc 3 1, 3) := by decide +kernel
theorem dX11_restingChoices_72 : decode cX11_restingChoices 72 = .ok (.goto (-68), 3) := by decide +kernel
theorem dX11_restingChoices_75 : decode cX11_restingChoices 75 = .ok (.iload_n 2, 1) := by decide +kernel
theorem dX11_restingChoices_76 : decode cX11_restingChoices 76 = .ok (.ireturn, 1) := by decide +kernel
theorem dX11_familyGain_0 : decode cX11_familyGain 0 = .ok (.iload_n 0, 1) := by decide +kernel
theorem dX11_familyGain_1 : decode cX11_familyGain 1 = .ok (.tableswitch 34 0 2 #[27, 30, 32], 27) := by decide +kernel
theorem dX11_familyGain_28 : decode cX11_familyGain 28 = .ok (.iload_n 2, 1) := by decide +kernel
theorem dX11_familyGain_29 : decode cX11_familyGain 29 = .ok (.ineg, 1) := by decide +kernel
theorem dX11_familyGain_30 : decode cX11_familyGain 30 = .ok (.ireturn, 1) := by decide +kernel
theorem dX11_familyGain_31 : decode cX11_familyGain 31 = .ok (.iload_n 1, 1) := by decide +kernel
theorem dX11_familyGain_32 : decode cX11_familyGain 32 = .ok (.ireturn, 1) := by decide +kernel
theorem dX11_familyGain_33 : decode cX11_familyGain 33 = .ok (.iconst 0, 1) := by decide +kernel
theorem dX11_familyGain_34 : decode cX11_familyGain 34 = .ok (.ireturn, 1) := by decide +kernel
theorem dX11_familyGain_35 : decode cX11_familyGain 35 = .ok (.iload_n 1, 1) := by decide +kernel
theorem dX11_familyGain_36 : decode cX11_familyGain 36 = .ok (.iconst 2, 1) := by decide +kernel
theorem dX11_familyGain_37 : decode cX11_familyGain 37 = .ok (.idiv, 1) := by decide +kernel
theorem dX11_familyGain_38 : decode cX11_familyGain 38 = .ok (.ireturn, 1) := by decide +kernel
theorem dX11_childGain_0 : decode cX11_childGain 0 = .ok (.iload_n 0, 1) := by decide +kernel
theorem dX11_childGain_1 : decode cX11_childGain 1 = .ok (.tableswitch 34 0 2 #[27, 29, 32], 27) := by decide +kernel
theorem dX11_childGain_28 : decode cX11_childGain 28 = .ok (.iconst 1, 1) := by decide +kernel
theorem dX11_childGain_29 : decode cX11_childGain 29 = .ok (.ireturn, 1) := by decide +kernel
theorem dX11_childGain_30 : decode cX11_childGain 30 = .ok (.bipush (-2), 2) := by decide +kernel
theorem dX11_childGain_32 : decode cX11_childGain 32 = .ok (.ireturn, 1) := by decide +kernel
theorem dX11_childGain_33 : decode cX11_childGain 33 = .ok (.iconst 0, 1) := by decide +kernel
theorem dX11_childGain_34 : decode cX11_childGain 34 = .ok (.ireturn, 1) := by decide +kernel
theorem dX11_childGain_35 : decode cX11_childGain 35 = .ok (.iconst 2, 1) := by decide +kernel
theorem dX11_childGain_36 : decode cX11_childGain 36 = .ok (.ireturn, 1) := by decide +kernel
theorem dX12_thrown_0 : decode cX12_thrown 0 = .ok (.aload_n 0, 1) := by decide +kernel
theorem dX12_thrown_1 : decode cX12_thrown 1 = .ok (.getfield 3, 3) := by decide +kernel
theorem dX12_thrown_4 : decode cX12_thrown 4 = .ok (.ireturn, 1) := by decide +kernel
theorem dX12_throwsIf_0 : decode cX12_throwsIf 0 = .ok (.iload_n 1, 1) := by decide +kernel
theorem dX12_throwsIf_1 : decode cX12_throwsIf 1 = .ok (.ifCond .eq 8, 3) := by decide +kernel
theorem dX12_throwsIf_4 : decode cX12_throwsIf 4 = .ok (.aload_n 0, 1) := by decide +kernel
theorem dX12_throwsIf_5 : decode cX12_throwsIf 5 = .ok (.iload_n 2, 1) := by decide +kernel
theorem dX12_throwsIf_6 : decode cX12_throwsIf 6 = .ok (.putfield 3, 3) := by decide +kernel
theorem dX12_throwsIf_9 : decode cX12_throwsIf 9 = .ok (.iload_n 1, 1) := by decide +kernel
theorem dX12_throwsIf_10 : decode cX12_throwsIf 10 = .ok (.ireturn, 1) := by decide +kernel
theorem dX12_in_0 : decode cX12_in 0 = .ok (.iload_n 0, 1) := by decide +kernel
theorem dX12_in_1 : decode cX12_in 1 = .ok (.iload_n 1, 1) := by decide +kernel
theorem dX12_in_2 : decode cX12_in 2 = .ok (.if_icmp .lt 12, 3) := by decide +kernel
theorem dX12_in_5 : decode cX12_in 5 = .ok (.iload_n 0, 1) := by decide +kernel
theorem dX12_in_6 : decode cX12_in 6 = .ok (.iload_n 2, 1) := by decide +kernel
theorem dX12_in_7 : decode cX12_in 7 = .ok (.if_icmp .gt 7, 3) := by decide +kernel
theorem dX12_in_10 : decode cX12_in 10 = .ok (.iconst 1, 1) := by decide +kernel
theorem dX12_in_11 : decode cX12_in 11 = .ok (.goto 4, 3) := by decide +kernel
theorem dX12_in_14 : decode cX12_in 14 = .ok (.iconst 0, 1) := by decide +kernel
theorem dX12_in_15 : decode cX12_in 15 = .ok (.ireturn, 1) := by decide +kernel
theorem dX12_has_0 : decode cX12_has 0 = .ok (.iload_n 0, 1) := by decide +kernel
theorem dX12_has_1 : decode cX12_has 1 = .ok (.iload_n 1, 1) := by decide +kernel
theorem dX12_has_2 : decode cX12_has 2 = .ok (.ishr, 1) := by decide +kernel
theorem dX12_has_3 : decode cX12_has 3 = .ok (.iconst 1, 1) := by decide +kernel
theorem dX12_has_4 : decode cX12_has 4 = .ok (.iand, 1) := by decide +kernel
theorem dX12_has_5 : decode cX12_has 5 = .ok (.iconst 1, 1) := by decide +kernel
theorem dX12_has_6 : decode cX12_has 6 = .ok (.if_icmp .ne 7, 3) := by decide +kernel
theorem dX12_has_9 : decode cX12_has 9 = .ok (.iconst 1, 1) := by decide +kernel
theorem dX12_has_10 : decode cX12_has 10 = .ok (.goto 4, 3) := by decide +kernel
theorem dX12_has_13 : decode cX12_has 13 = .ok (.iconst 0, 1) := by decide +kernel
theorem dX12_has_14 : decode cX12_has 14 = .ok (.ireturn, 1) := by decide +kernel
theorem dX12_init_0 : decode cX12_init 0 = .ok (.aload_n 0, 1) := by decide +kernel
theorem dX12_init_1 : decode cX12_init 1 = .ok (.invokespecial 7, 3) := by decide +kernel
theorem dX12_init_4 : decode cX12_init 4 = .ok (.aload_n 0, 1) := by decide +kernel
theorem dX12_init_5 : decode cX12_init 5 = .ok (.sipush 2113, 3) := by decide +kernel
theorem dX12_init_8 : decode cX12_init 8 = .ok (.newarray .int, 2) := by decide +kernel
theorem dX12_init_10 : decode cX12_init 10 = .ok (.putfield 13, 3) := by decide +kernel
theorem dX12_init_13 : decode cX12_init 13 = .ok (.aload_n 0, 1) := by decide +kernel
theorem dX12_init_14 : decode cX12_init 14 = .ok (.sipush 1264, 3) := by decide +kernel
theorem dX12_init_17 : decode cX12_init 17 = .ok (.newarray .int, 2) := by decide +kernel
theorem dX12_init_19 : decode cX12_init 19 = .ok (.putfield 17, 3) := by decide +kernel
theorem dX12_init_22 : decode cX12_init 22 = .ok (.aload_n 0, 1) := by decide +kernel
theorem dX12_init_23 : decode cX12_init 23 = .ok (.sipush 1264, 3) := by decide +kernel
theorem dX12_init_26 : decode cX12_init 26 = .ok (.newarray .int, 2) := by decide +kernel
theorem dX12_init_28 : decode cX12_init 28 = .ok (.putfield 20, 3) := by decide +kernel
theorem dX12_init_31 : decode cX12_init 31 = .ok (.aload_n 0, 1) := by decide +kernel
theorem dX12_init_32 : decode cX12_init 32 = .ok (.sipush 415, 3) := by decide +kernel
theorem dX12_init_35 : decode cX12_init 35 = .ok (.newarray .int, 2) := by decide +kernel
theorem dX12_init_37 : decode cX12_init 37 = .ok (.putfield 23, 3) := by decide +kernel
theorem dX12_init_40 : decode cX12_init 40 = .ok (.aload_n 0, 1) := by decide +kernel
theorem dX12_init_41 : decode cX12_init 41 = .ok (.sipush 4980, 3) := by decide +kernel
theorem dX12_init_44 : decode cX12_init 44 = .ok (.newarray .int, 2) := by decide +kernel
theorem dX12_init_46 : decode cX12_init 46 = .ok (.putfield 26, 3) := by decide +kernel
theorem dX12_init_49 : decode cX12_init 49 = .ok (.aload_n 0, 1) := by decide +kernel
theorem dX12_init_50 : decode cX12_init 50 = .ok (.sipush 400, 3) := by decide +kernel
theorem dX12_init_53 : decode cX12_init 53 = .ok (.newarray .byte, 2) := by decide +kernel
theorem dX12_init_55 : decode cX12_init 55 = .ok (.putfield 29, 3) := by decide +kernel
theorem dX12_init_58 : decode cX12_init 58 = .ok (.aload_n 0, 1) := by decide +kernel
theorem dX12_init_59 : decode cX12_init 59 = .ok (.iconst (-1), 1) := by decide +kernel
theorem dX12_init_60 : decode cX12_init 60 = .ok (.putfield 33, 3) := by decide +kernel
theorem dX12_init_63 : decode cX12_init 63 = .ok (.aload_n 0, 1) := by decide +kernel
theorem dX12_init_64 : decode cX12_init 64 = .ok (.iconst 5, 1) := by decide +kernel
theorem dX12_init_65 : decode cX12_init 65 = .ok (.newarray .int, 2) := by decide +kernel
theorem dX12_init_67 : decode cX12_init 67 = .ok (.putfield 36, 3) := by decide +kernel
theorem dX12_init_70 : decode cX12_init 70 = .ok (.aload_n 0, 1) := by decide +kernel
theorem dX12_init_71 : decode cX12_init 71 = .ok (.sipush 400, 3) := by decide +kernel
theorem dX12_init_74 : decode cX12_init 74 = .ok (.newarray .int, 2) := by decide +kernel
theorem dX12_init_76 : decode cX12_init 76 = .ok (.putfield 39, 3) := by decide +kernel
theorem dX12_init_79 : decode cX12_init 79 = .ok (.aload_n 0, 1) := by decide +kernel
theorem dX12_init_80 : decode cX12_init 80 = .ok (.sipush 1024, 3) := by decide +kernel
theorem dX12_init_83 : decode cX12_init 83 = .ok (.newarray .int, 2) := by decide +kernel
theorem dX12_init_85 : decode cX12_init 85 = .ok (.putfield 42, 3) := by decide +kernel
theorem dX12_init_88 : decode cX12_init 88 = .ok (.aload_n 0, 1) := by decide +kernel
theorem dX12_init_89 : decode cX12_init 89 = .ok (.sipush 1024, 3) := by decide +kernel
theorem dX12_init_92 : decode cX12_init 92 = .ok (.newarray .int, 2) := by decide +kernel
theorem dX12_init_94 : decode cX12_init 94 = .ok (.putfield 45, 3) := by decide +kernel
theorem dX12_init_97 : decode cX12_init 97 = .ok (.aload_n 0, 1) := by decide +kernel
theorem dX12_init_98 : decode cX12_init 98 = .ok (.sipush 1024, 3) := by decide +kernel
theorem dX12_init_101 : decode cX12_init 101 = .ok (.newarray .int, 2) := by decide +kernel
theorem dX12_init_103 : decode cX12_init 103 = .ok (.putfield 48, 3) := by decide +kernel
theorem dX12_init_106 : decode cX12_init 106 = .ok (.aload_n 0, 1) := by decide +kernel
theorem dX12_init_107 : decode cX12_init 107 = .ok (.sipush 2304, 3) := by decide +kernel
theorem dX12_init_110 : decode cX12_init 110 = .ok (.newarray .int, 2) := by decide +kernel
theorem dX12_init_112 : decode cX12_init 112 = .ok (.putfield 51, 3) := by decide +kernel
theorem dX12_init_115 : decode cX12_init 115 = .ok (.aload_n 0, 1) := by decide +kernel
theorem dX12_init_116 : decode cX12_init 116 = .ok (.bipush 8, 2) := by decide +kernel
theorem dX12_init_118 : decode cX12_init 118 = .ok (.newarray .int, 2) := by decide +kernel
theorem dX12_init_120 : decode cX12_init 120 = .ok (.putfield 54, 3) := by decide +kernel
theorem dX12_init_123 : decode cX12_init 123 = .ok (.aload_n 0, 1) := by decide +kernel
theorem dX12_init_124 : decode cX12_init 124 = .ok (.bipush 8, 2) := by decide +kernel
theorem dX12_init_126 : decode cX12_init 126 = .ok (.newarray .int, 2) := by decide +kernel
theorem dX12_init_128 : decode cX12_init 128 = .ok (.putfield 57, 3) := by decide +kernel
theorem dX12_init_131 : decode cX12_init 131 = .ok (.aload_n 0, 1) := by decide +kernel
theorem dX12_init_132 : decode cX12_init 132 = .ok (.sipush 1000, 3) := by decide +kernel
theorem dX12_init_135 : decode cX12_init 135 = .ok (.newarray .int, 2) := by decide +kernel
theorem dX12_init_137 : decode cX12_init 137 = .ok (.putfield 60, 3) := by decide +kernel
theorem dX12_init_140 : decode cX12_init 140 = .ok (.aload_n 0, 1) := by decide +kernel
theorem dX12_init_141 : decode cX12_init 141 = .ok (.getfield 13, 3) := by decide +kernel
theorem dX12_init_144 : decode cX12_init 144 = .ok (.iconst 4, 1) := by decide +kernel
theorem dX12_init_145 : decode cX12_init 145 = .ok (.iconst 1, 1) := by decide +kernel
theorem dX12_init_146 : decode cX12_init 146 = .ok (.iastore, 1) := by decide +kernel
theorem dX12_init_147 : decode cX12_init 147 = .ok (.aload_n 0, 1) := by decide +kernel
theorem dX12_init_148 : decode cX12_init 148 = .ok (.getfield 13, 3) := by decide +kernel
theorem dX12_init_151 : decode cX12_init 151 = .ok (.bipush 6, 2) := by decide +kernel
theorem dX12_init_153 : decode cX12_init 153 = .ok (.iconst 1, 1) := by decide +kernel
theorem dX12_init_154 : decode cX12_init 154 = .ok (.iastore, 1) := by decide +kernel
theorem dX12_init_155 : decode cX12_init 155 = .ok (.iconst 0, 1) := by decide +kernel
theorem dX12_init_156 : decode cX12_init 156 = .ok (.istore_n 1, 1) := by decide +kernel
theorem dX12_init_157 : decode cX12_init 157 = .ok (.iload_n 1, 1) := by decide +kernel
theorem dX12_init_158 : decode cX12_init 158 = .ok (.bipush 8, 2) := by decide +kernel
theorem dX12_init_160 : decode cX12_init 160 = .ok (.if_icmp .ge 20, 3) := by decide +kernel
theorem dX12_init_163 : decode cX12_init 163 = .ok (.aload_n 0, 1) := by decide +kernel
theorem dX12_init_164 : decode cX12_init 164 = .ok (.getfield 13, 3) := by decide +kernel
theorem dX12_init_167 : decode cX12_init 167 = .ok (.iload_n 1, 1) := by decide +kernel
theorem dX12_init_168 : decode cX12_init 168 = .ok (.iconst 0, 1) := by decide +kernel
theorem dX12_init_169 : decode cX12_init 169 = .ok (.invokestatic 63, 3) := by decide +kernel
theorem dX12_init_172 : decode cX12_init 172 = .ok (.iconst 1, 1) := by decide +kernel
theorem dX12_init_173 : decode cX12_init 173 = .ok (.iastore, 1) := by decide +kernel
theorem dX12_init_174 : decode cX12_init 174 = .ok (.iinc 1 1, 3) := by decide +kernel
theorem dX12_init_177 : decode cX12_init 177 = .ok (.goto (-20), 3) := by decide +kernel
theorem dX12_init_180 : decode cX12_init 180 = .ok (.return_, 1) := by decide +kernel
theorem dX12_image_0 : decode cX12_image 0 = .ok (.aload_n 0, 1) := by decide +kernel
theorem dX12_image_1 : decode cX12_image 1 = .ok (.iconst 0, 1) := by decide +kernel
theorem dX12_image_2 : decode cX12_image 2 = .ok (.putfield 3, 3) := by decide +kernel
theorem dX12_image_5 : decode cX12_image 5 = .ok (.iconst 0, 1) := by decide +kernel
theorem dX12_image_6 : decode cX12_image 6 = .ok (.istore_n 1, 1) := by decide +kernel
theorem dX12_image_7 : decode cX12_image 7 = .ok (.iload_n 1, 1) := by decide +kernel
theorem dX12_image_8 : decode cX12_image 8 = .ok (.sipush 1264, 3) := by decide +kernel
theorem dX12_image_11 : decode cX12_image 11 = .ok (.if_icmp .ge 21, 3) := by decide +kernel
theorem dX12_image_14 : decode cX12_image 14 = .ok (.aload_n 0, 1) := by decide +kernel
theorem dX12_image_15 : decode cX12_image 15 = .ok (.getfield 17, 3) := by decide +kernel
theorem dX12_image_18 : decode cX12_image 18 = .ok (.iload_n 1, 1) := by decide +kernel
theorem dX12_image_19 : decode cX12_image 19 = .ok (.aload_n 0, 1) := by decide +kernel
theorem dX12_image_20 : decode cX12_image 20 = .ok (.getfield 13, 3) := by decide +kernel
theorem dX12_image_23 : decode cX12_image 23 = .ok (.iload_n 1, 1) := by decide +kernel
theorem dX12_image_24 : decode cX12_image 24 = .ok (.iaload, 1) := by decide +kernel
theorem dX12_image_25 : decode cX12_image 25 = .ok (.iastore, 1) := by decide +kernel
theorem dX12_image_26 : decode cX12_image 26 = .ok (.iinc 1 1, 3) := by decide +kernel
theorem dX12_image_29 : decode cX12_image 29 = .ok (.goto (-22), 3) := by decide +kernel
theorem dX12_image_32 : decode cX12_image 32 = .ok (.aload_n 0, 1) := by decide +kernel
theorem dX12_image_33 : decode cX12_image 33 = .ok (.iconst 1, 1) := by decide +kernel
theorem dX12_image_34 : decode cX12_image 34 = .ok (.putfield 67, 3) := by decide +kernel
theorem dX12_image_37 : decode cX12_image 37 = .ok (.return_, 1) := by decide +kernel
theorem dX12_back_0 : decode cX12_back 0 = .ok (.aload_n 0, 1) := by decide +kernel
theorem dX12_back_1 : decode cX12_back 1 = .ok (.iconst 0, 1) := by decide +kernel
theorem dX12_back_2 : decode cX12_back 2 = .ok (.putfield 3, 3) := by decide +kernel
theorem dX12_back_5 : decode cX12_back 5 = .ok (.aload_n 0, 1) := by decide +kernel
theorem dX12_back_6 : decode cX12_back 6 = .ok (.getfield 67, 3) := by decide +kernel
theorem dX12_back_9 : decode cX12_back 9 = .ok (.ifCond .ne 5, 3) := by decide +kernel
theorem dX12_back_12 : decode cX12_back 12 = .ok (.iconst 0, 1) := by decide +kernel
theorem dX12_back_13 : decode cX12_back 13 = .ok (.ireturn, 1) := by decide +kernel
theorem dX12_back_14 : decode cX12_back 14 = .ok (.iconst 0, 1) := by decide +kernel
theorem dX12_back_15 : decode cX12_back 15 = .ok (.istore_n 1, 1) := by decide +kernel
theorem dX12_back_16 : decode cX12_back 16 = .ok (.iload_n 1, 1) := by decide +kernel
theorem dX12_back_17 : decode cX12_back 17 = .ok (.sipush 1264, 3) := by decide +kernel
theorem dX12_back_20 : decode cX12_back 20 = .ok (.if_icmp .ge 21, 3) := by decide +kernel
theorem dX12_back_23 : decode cX12_back 23 = .ok (.aload_n 0, 1) := by decide +kernel
theorem dX12_back_24 : decode cX12_back 24 = .ok (.getfield 13, 3) := by decide +kernel
theorem dX12_back_27 : decode cX12_back 27 = .ok (.iload_n 1, 1) := by decide +kernel
theorem dX12_back_28 : decode cX12_back 28 = .ok (.aload_n 0, 1) := by decide +kernel
theorem dX12_back_29 : decode cX12_back 29 = .ok (.getfield 17, 3) := by decide +kernel
theorem dX12_back_32 : decode cX12_back 32 = .ok (.iload_n 1, 1) := by decide +kernel
theorem dX12_back_33 : decode cX12_back 33 = .ok (.iaload, 1) := by decide +kernel
theorem dX12_back_34 : decode cX12_back 34 = .ok (.iastore, 1) := by decide +kernel
theorem dX12_back_35 : decode cX12_back 35 = .ok (.iinc 1 1, 3) := by decide +kernel
theorem dX12_back_38 : decode cX12_back 38 = .ok (.goto (-22), 3) := by decide +kernel
theorem dX12_back_41 : decode cX12_back 41 = .ok (.aload_n 0, 1) := by decide +kernel
theorem dX12_back_42 : decode cX12_back 42 = .ok (.iconst 0, 1) := by decide +kernel
theorem dX12_back_43 : decode cX12_back 43 = .ok (.putfield 71, 3) := by decide +kernel
theorem dX12_back_46 : decode cX12_back 46 = .ok (.iconst 1, 1) := by decide +kernel
theorem dX12_back_47 : decode cX12_back 47 = .ok (.ireturn, 1) := by decide +kernel
theorem dX12_remembers_0 : decode cX12_remembers 0 = .ok (.aload_n 0, 1) := by decide +kernel
theorem dX12_remembers_1 : decode cX12_remembers 1 = .ok (.getfield 71, 3) := by decide +kernel
theorem dX12_remembers_4 : decode cX12_remembers 4 = .ok (.bipush 12, 2) := by decide +kernel
theorem dX12_remembers_6 : decode cX12_remembers 6 = .ok (.if_icmp .ne 37, 3) := by decide +kernel
theorem dX12_remembers_9 : decode cX12_remembers 9 = .ok (.iconst 0, 1) := by decide +kernel
theorem dX12_remembers_10 : decode cX12_remembers 10 = .ok (.istore_n 1, 1) := by decide +kernel
theorem dX12_remembers_11 : decode cX12_remembers 11 = .ok (.iload_n 1, 1) := by decide +kernel
theorem dX12_remembers_12 : decode cX12_remembers 12 = .ok (.sipush 4565, 3) := by decide +kernel
theorem dX12_remembers_15 : decode cX12_remembers 15 = .ok (.if_icmp .ge 25, 3) := by decide +kernel
theorem dX12_remembers_18 : decode cX12_remembers 18 = .ok (.aload_n 0, 1) := by decide +kernel
theorem dX12_remembers_19 : decode cX12_remembers 19 = .ok (.getfield 26, 3) := by decide +kernel
theorem dX12_remembers_22 : decode cX12_remembers 22 = .ok (.iload_n 1, 1) := by decide +kernel
theorem dX12_remembers_23 : decode cX12_remembers 23 = .ok (.aload_n 0, 1) := by decide +kernel
theorem dX12_remembers_24 : decode cX12_remembers 24 = .ok (.getfield 26, 3) := by decide +kernel
theorem dX12_remembers_27 : decode cX12_remembers 27 = .ok (.iload_n 1, 1) := by decide +kernel
theorem dX12_remembers_28 : decode cX12_remembers 28 = .ok (.sipush 415, 3) := by decide +kernel
theorem dX12_remembers_31 : decode cX12_remembers 31 = .ok (.iadd, 1) := by decide +kernel
theorem dX12_remembers_32 : decode cX12_remembers 32 = .ok (.iaload, 1) := by decide +kernel
theorem dX12_remembers_33 : decode cX12_remembers 33 = .ok (.iastore, 1) := by decide +kernel
theorem dX12_remembers_34 : decode cX12_remembers 34 = .ok (.iinc 1 1, 3) := by decide +kernel
theorem dX12_remembers_37 : decode cX12_remembers 37 = .ok (.goto (-26), 3) := by decide +kernel
theorem dX12_remembers_40 : decode cX12_remembers 40 = .ok (.goto 13, 3) := by decide +kernel
theorem dX12_remembers_43 : decode cX12_remembers 43 = .ok (.aload_n 0, 1) := by decide +kernel
theorem dX12_remembers_44 : decode cX12_remembers 44 = .ok (.dup, 1) := by decide +kernel
theorem dX12_remembers_45 : decode cX12_remembers 45 = .ok (.getfield 71, 3) := by decide +kernel
theorem dX12_remembers_48 : decode cX12_remembers 48 = .ok (.iconst 1, 1) := by decide +kernel
theorem dX12_remembers_49 : decode cX12_remembers 49 = .ok (.iadd, 1) := by decide +kernel
theorem dX12_remembers_50 : decode cX12_remembers 50 = .ok (.putfield 71, 3) := by decide +kernel
theorem dX12_remembers_53 : decode cX12_remembers 53 = .ok (.iconst 0, 1) := by decide +kernel
theorem dX12_remembers_54 : decode cX12_remembers 54 = .ok (.istore_n 1, 1) := by decide +kernel
theorem dX12_remembers_55 : decode cX12_remembers 55 = .ok (.iload_n 1, 1) := by decide +kernel
theorem dX12_remembers_56 : decode cX12_remembers 56 = .ok (.sipush 415, 3) := by decide +kernel
theorem dX12_remembers_59 : decode cX12_remembers 59 = .ok (.if_icmp .ge 32, 3) := by decide +kernel
theorem dX12_remembers_62 : decode cX12_remembers 62 = .ok (.aload_n 0, 1) := by decide +kernel
theorem dX12_remembers_63 : decode cX12_remembers 63 = .ok (.getfield 26, 3) := by decide +kernel
theorem dX12_remembers_66 : decode cX12_remembers 66 = .ok (.sipush 415, 3) := by decide +kernel
theorem dX12_remembers_69 : decode cX12_remembers 69 = .ok (.aload_n 0, 1) := by decide +kernel
theorem dX12_remembers_70 : decode cX12_remembers 70 = .ok (.getfield 71, 3) := by decide +kernel
theorem dX12_remembers_73 : decode cX12_remembers 73 = .ok (.iconst 1, 1) := by decide +kernel
theorem dX12_remembers_74 : decode cX12_remembers 74 = .ok (.isub, 1) := by decide +kernel
theorem dX12_remembers_75 : decode cX12_remembers 75 = .ok (.imul, 1) := by decide +kernel
theorem dX12_remembers_76 : decode cX12_remembers 76 = .ok (.iload_n 1, 1) := by decide +kernel
theorem dX12_remembers_77 : decode cX12_remembers 77 = .ok (.iadd, 1) := by decide +kernel
theorem dX12_remembers_78 : decode cX12_remembers 78 = .ok (.aload_n 0, 1) := by decide +kernel
theorem dX12_remembers_79 : decode cX12_remembers 79 = .ok (.getfield 13, 3) := by decide +kernel
theorem dX12_remembers_82 : decode cX12_remembers 82 = .ok (.iload_n 1, 1) := by decide +kernel
theorem dX12_remembers_83 : decode cX12_remembers 83 = .ok (.iaload, 1) := by decide +kernel
theorem dX12_remembers_84 : decode cX12_remembers 84 = .ok (.iastore, 1) := by decide +kernel
theorem dX12_remembers_85 : decode cX12_remembers 85 = .ok (.iinc 1 1, 3) := by decide +kernel
theorem dX12_remembers_88 : decode cX12_remembers 88 = .ok (.goto (-33), 3) := by decide +kernel
theorem dX12_remembers_91 : decode cX12_remembers 91 = .ok (.return_, 1) := by decide +kernel
theorem dX12_undo_0 : decode cX12_undo 0 = .ok (.aload_n 0, 1) := by decide +kernel
theorem dX12_undo_1 : decode cX12_undo 1 = .ok (.iconst 0, 1) := by decide +kernel
theorem dX12_undo_2 : decode cX12_undo 2 = .ok (.putfield 3, 3) := by decide +kernel
theorem dX12_undo_5 : decode cX12_undo 5 = .ok (.aload_n 0, 1) := by decide +kernel
theorem dX12_undo_6 : decode cX12_undo 6 = .ok (.getfield 71, 3) := by decide +kernel
theorem dX12_undo_9 : decode cX12_undo 9 = .ok (.ifCond .ne 5, 3) := by decide +kernel
theorem dX12_undo_12 : decode cX12_undo 12 = .ok (.iconst 0, 1) := by decide +kernel
theorem dX12_undo_13 : decode cX12_undo 13 = .ok (.ireturn, 1) := by decide +kernel
theorem dX12_undo_14 : decode cX12_undo 14 = .ok (.aload_n 0, 1) := by decide +kernel
theorem dX12_undo_15 : decode cX12_undo 15 = .ok (.dup, 1) := by decide +kernel
theorem dX12_undo_16 : decode cX12_undo 16 = .ok (.getfield 71, 3) := by decide +kernel
theorem dX12_undo_19 : decode cX12_undo 19 = .ok (.iconst 1, 1) := by decide +kernel
theorem dX12_undo_20 : decode cX12_undo 20 = .ok (.isub, 1) := by decide +kernel
theorem dX12_undo_21 : decode cX12_undo 21 = .ok (.putfield 71, 3) := by decide +kernel
theorem dX12_undo_24 : decode cX12_undo 24 = .ok (.iconst 0, 1) := by decide +kernel
theorem dX12_undo_25 : decode cX12_undo 25 = .ok (.istore_n 1, 1) := by decide +kernel
theorem dX12_undo_26 : decode cX12_undo 26 = .ok (.iload_n 1, 1) := by decide +kernel
theorem dX12_undo_27 : decode cX12_undo 27 = .ok (.sipush 415, 3) := by decide +kernel
theorem dX12_undo_30 : decode cX12_undo 30 = .ok (.if_icmp .ge 30, 3) := by decide +kernel
theorem dX12_undo_33 : decode cX12_undo 33 = .ok (.aload_n 0, 1) := by decide +kernel
theorem dX12_undo_34 : decode cX12_undo 34 = .ok (.getfield 13, 3) := by decide +kernel
theorem dX12_undo_37 : decode cX12_undo 37 = .ok (.iload_n 1, 1) := by decide +kernel
theorem dX12_undo_38 : decode cX12_undo 38 = .ok (.aload_n 0, 1) := by decide +kernel
theorem dX12_undo_39 : decode cX12_undo 39 = .ok (.getfield 26, 3) := by decide +kernel
theorem dX12_undo_42 : decode cX12_undo 42 = .ok (.sipush 415, 3) := by decide +kernel
theorem dX12_undo_45 : decode cX12_undo 45 = .ok (.aload_n 0, 1) := by decide +kernel
theorem dX12_undo_46 : decode cX12_undo 46 = .ok (.getfield 71, 3) := by decide +kernel
theorem dX12_undo_49 : decode cX12_undo 49 = .ok (.imul, 1) := by decide +kernel
theorem dX12_undo_50 : decode cX12_undo 50 = .ok (.iload_n 1, 1) := by decide +kernel
theorem dX12_undo_51 : decode cX12_undo 51 = .ok (.iadd, 1) := by decide +kernel
theorem dX12_undo_52 : decode cX12_undo 52 = .ok (.iaload, 1) := by decide +kernel
theorem dX12_undo_53 : decode cX12_undo 53 = .ok (.iastore, 1) := by decide +kernel
theorem dX12_undo_54 : decode cX12_undo 54 = .ok (.iinc 1 1, 3) := by decide +kernel
theorem dX12_undo_57 : decode cX12_undo 57 = .ok (.goto (-31), 3) := by decide +kernel
theorem dX12_undo_60 : decode cX12_undo 60 = .ok (.iconst 1, 1) := by decide +kernel
theorem dX12_undo_61 : decode cX12_undo 61 = .ok (.ireturn, 1) := by decide +kernel
theorem dX12_children_0 : decode cX12_children 0 = .ok (.aload_n 0, 1) := by decide +kernel
theorem dX12_children_1 : decode cX12_children 1 = .ok (.getfield 13, 3) := by decide +kernel
theorem dX12_children_4 : decode cX12_children 4 = .ok (.iconst 0, 1) := by decide +kernel
theorem dX12_children_5 : decode cX12_children 5 = .ok (.iaload, 1) := by decide +kernel
theorem dX12_children_6 : decode cX12_children 6 = .ok (.ireturn, 1) := by decide +kernel
theorem dX12_thingAt_0 : decode cX12_thingAt 0 = .ok (.bipush 7, 2) := by decide +kernel
theorem dX12_thingAt_2 : decode cX12_thingAt 2 = .ok (.iconst 4, 1) := by decide +kernel
theorem dX12_thingAt_3 : decode cX12_thingAt 3 = .ok (.iload_n 0, 1) := by decide +kernel
theorem dX12_thingAt_4 : decode cX12_thingAt 4 = .ok (.imul, 1) := by decide +kernel
theorem dX12_thingAt_5 : decode cX12_thingAt 5 = .ok (.iadd, 1) := by decide +kernel
theorem dX12_thingAt_6 : decode cX12_thingAt 6 = .ok (.iload_n 1, 1) := by decide +kernel
theorem dX12_thingAt_7 : decode cX12_thingAt 7 = .ok (.iadd, 1) := by decide +kernel
theorem dX12_thingAt_8 : decode cX12_thingAt 8 = .ok (.ireturn, 1) := by decide +kernel
theorem dX12_ofThing_0 : decode cX12_ofThing 0 = .ok (.aload_n 0, 1) := by decide +kernel
theorem dX12_ofThing_1 : decode cX12_ofThing 1 = .ok (.getfield 13, 3) := by decide +kernel
theorem dX12_ofThing_4 : decode cX12_ofThing 4 = .ok (.iload_n 1, 1) := by decide +kernel
theorem dX12_ofThing_5 : decode cX12_ofThing 5 = .ok (.iload_n 2, 1) := by decide +kernel
theorem dX12_ofThing_6 : decode cX12_ofThing 6 = .ok (.invokestatic 63, 3) := by decide +kernel
theorem dX12_ofThing_9 : decode cX12_ofThing 9 = .ok (.iaload, 1) := by decide +kernel
theorem dX12_ofThing_10 : decode cX12_ofThing 10 = .ok (.ireturn, 1) := by decide +kernel
theorem dX12_at_0 : decode cX12_at 0 = .ok (.bipush 43, 2) := by decide +kernel
theorem dX12_at_2 : decode cX12_at 2 = .ok (.bipush 9, 2) := by decide +kernel
theorem dX12_at_4 : decode cX12_at 4 = .ok (.iload_n 0, 1) := by decide +kernel
theorem dX12_at_5 : decode cX12_at 5 = .ok (.imul, 1) := by decide +kernel
theorem dX12_at_6 : decode cX12_at 6 = .ok (.iadd, 1) := by decide +kernel
theorem dX12_at_7 : decode cX12_at 7 = .ok (.iload_n 1, 1) := by decide +kernel
theorem dX12_at_8 : decode cX12_at 8 = .ok (.iadd, 1) := by decide +kernel
theorem dX12_at_9 : decode cX12_at 9 = .ok (.ireturn, 1) := by decide +kernel
theorem dX12_of_0 : decode cX12_of 0 = .ok (.aload_n 0, 1) := by decide +kernel
theorem dX12_of_1 : decode cX12_of 1 = .ok (.getfield 13, 3) := by decide +kernel
theorem dX12_of_4 : decode cX12_of 4 = .ok (.iload_n 1, 1) := by decide +kernel
theorem dX12_of_5 : decode cX12_of 5 = .ok (.iload_n 2, 1) := by decide +kernel
theorem dX12_of_6 : decode cX12_of 6 = .ok (.invokestatic 74, 3) := by decide +kernel
theorem dX12_of_9 : decode cX12_of 9 = .ok (.iaload, 1) := by decide +kernel
theorem dX12_of_10 : decode cX12_of 10 = .ok (.ireturn, 1) := by decide +kernel
theorem dX12_isOpened_0 : decode cX12_isOpened 0 = .ok (.aload_n 0, 1) := by decide +kernel
theorem dX12_isOpened_1 : decode cX12_isOpened 1 = .ok (.iload_n 1, 1) := by decide +kernel
theorem dX12_isOpened_2 : decode cX12_isOpened 2 = .ok (.bipush 7, 2) := by decide +kernel
theorem dX12_isOpened_4 : decode cX12_isOpened 4 = .ok (.invokevirtual 77, 3) := by decide +kernel
theorem dX12_isOpened_7 : decode cX12_isOpened 7 = .ok (.iconst 1, 1) := by decide +kernel
theorem dX12_isOpened_8 : decode cX12_isOpened 8 = .ok (.if_icmp .ne 7, 3) := by decide +kernel
theorem dX12_isOpened_11 : decode cX12_isOpened 11 = .ok (.iconst 1, 1) := by decide +kernel
theorem dX12_isOpened_12 : decode cX12_isOpened 12 = .ok (.goto 4, 3) := by decide +kernel
theorem dX12_isOpened_15 : decode cX12_isOpened 15 = .ok (.iconst 0, 1) := by decide +kernel
theorem dX12_isOpened_16 : decode cX12_isOpened 16 = .ok (.ireturn, 1) := by decide +kernel
theorem dX12_hasKnot_0 : decode cX12_hasKnot 0 = .ok (.aload_n 0, 1) := by decide +kernel
theorem dX12_hasKnot_1 : decode cX12_hasKnot 1 = .ok (.iload_n 1, 1) := by decide +kernel
theorem dX12_hasKnot_2 : decode cX12_hasKnot 2 = .ok (.bipush 8, 2) := by decide +kernel
theorem dX12_hasKnot_4 : decode cX12_hasKnot 4 = .ok (.invokevirtual 77, 3) := by decide +kernel
theorem dX12_hasKnot_7 : decode cX12_hasKnot 7 = .ok (.iconst (-1), 1) := by decide +kernel
theorem dX12_hasKnot_8 : decode cX12_hasKnot 8 = .ok (.if_icmp .eq 7, 3) := by decide +kernel
theorem dX12_hasKnot_11 : decode cX12_hasKnot 11 = .ok (.iconst 1, 1) := by decide +kernel
theorem dX12_hasKnot_12 : decode cX12_hasKnot 12 = .ok (.goto 4, 3) := by decide +kernel
theorem dX12_hasKnot_15 : decode cX12_hasKnot 15 = .ok (.iconst 0, 1) := by decide +kernel
theorem dX12_hasKnot_16 : decode cX12_hasKnot 16 = .ok (.ireturn, 1) := by decide +kernel
theorem dX12_keeps_0 : decode cX12_keeps 0 = .ok (.aload_n 0, 1) := by decide +kernel
theorem dX12_keeps_1 : decode cX12_keeps 1 = .ok (.iload_n 1, 1) := by decide +kernel
theorem dX12_keeps_2 : decode cX12_keeps 2 = .ok (.iconst 5, 1) := by decide +kernel
theorem dX12_keeps_3 : decode cX12_keeps 3 = .ok (.invokevirtual 77, 3) := by decide +kernel
theorem dX12_keeps_6 : decode cX12_keeps 6 = .ok (.iconst (-1), 1) := by decide +kernel
theorem dX12_keeps_7 : decode cX12_keeps 7 = .ok (.if_icmp .eq 7, 3) := by decide +kernel
theorem dX12_keeps_10 : decode cX12_keeps 10 = .ok (.iconst 1, 1) := by decide +kernel
theorem dX12_keeps_11 : decode cX12_keeps 11 = .ok (.goto 4, 3) := by decide +kernel
theorem dX12_keeps_14 : decode cX12_keeps 14 = .ok (.iconst 0, 1) := by decide +kernel
theorem dX12_keeps_15 : decode cX12_keeps 15 = .ok (.ireturn, 1) := by decide +kernel
theorem dX12_weightOf_0 : decode cX12_weightOf 0 = .ok (.iload_n 1, 1) := by decide +kernel
theorem dX12_weightOf_1 : decode cX12_weightOf 1 = .ok (.bipush 8, 2) := by decide +kernel
theorem dX12_weightOf_3 : decode cX12_weightOf 3 = .ok (.if_icmp .ne 12, 3) := by decide +kernel
theorem dX12_weightOf_6 : decode cX12_weightOf 6 = .ok (.aload_n 0, 1) := by decide +kernel
theorem dX12_weightOf_7 : decode cX12_weightOf 7 = .ok (.getfield 13, 3) := by decide +kernel
theorem dX12_weightOf_10 : decode cX12_weightOf 10 = .ok (.iconst 4, 1) := by decide +kernel
theorem dX12_weightOf_11 : decode cX12_weightOf 11 = .ok (.iaload, 1) := by decide +kernel
theorem dX12_weightOf_12 : decode cX12_weightOf 12 = .ok (.goto 9, 3) := by decide +kernel
theorem dX12_weightOf_15 : decode cX12_weightOf 15 = .ok (.aload_n 0, 1) := by decide +kernel
theorem dX12_weightOf_16 : decode cX12_weightOf 16 = .ok (.iload_n 1, 1) := by decide +kernel
theorem dX12_weightOf_17 : decode cX12_weightOf 17 = .ok (.iconst 0, 1) := by decide +kernel
theorem dX12_weightOf_18 : decode cX12_weightOf 18 = .ok (.invokevirtual 80, 3) := by decide +kernel
theorem dX12_weightOf_21 : decode cX12_weightOf 21 = .ok (.ireturn, 1) := by decide +kernel
theorem dX12_noChild_0 : decode cX12_noChild 0 = .ok (.iload_n 1, 1) := by decide +kernel
theorem dX12_noChild_1 : decode cX12_noChild 1 = .ok (.iconst 0, 1) := by decide +kernel
theorem dX12_noChild_2 : decode cX12_noChild 2 = .ok (.aload_n 0, 1) := by decide +kernel
theorem dX12_noChild_3 : decode cX12_noChild 3 = .ok (.invokevirtual 83, 3) := by decide +kernel
theorem dX12_noChild_6 : decode cX12_noChild 6 = .ok (.iconst 1, 1) := by decide +kernel
theorem dX12_noChild_7 : decode cX12_noChild 7 = .ok (.isub, 1) := by decide +kernel
theorem dX12_noChild_8 : decode cX12_noChild 8 = .ok (.invokestatic 87, 3) := by decide +kernel
theorem dX12_noChild_11 : decode cX12_noChild 11 = .ok (.ifCond .ne 7, 3) := by decide +kernel
theorem dX12_noChild_14 : decode cX12_noChild 14 = .ok (.iconst 1, 1) := by decide +kernel
theorem dX12_noChild_15 : decode cX12_noChild 15 = .ok (.goto 4, 3) := by decide +kernel
theorem dX12_noChild_18 : decode cX12_noChild 18 = .ok (.iconst 0, 1) := by decide +kernel
theorem dX12_noChild_19 : decode cX12_noChild 19 = .ok (.ireturn, 1) := by decide +kernel
theorem dX12_noThing_0 : decode cX12_noThing 0 = .ok (.iload_n 0, 1) := by decide +kernel
theorem dX12_noThing_1 : decode cX12_noThing 1 = .ok (.iconst 0, 1) := by decide +kernel
theorem dX12_noThing_2 : decode cX12_noThing 2 = .ok (.bipush 7, 2) := by decide +kernel
theorem dX12_noThing_4 : decode cX12_noThing 4 = .ok (.invokestatic 87, 3) := by decide +kernel
theorem dX12_noThing_7 : decode cX12_noThing 7 = .ok (.ifCond .ne 7, 3) := by decide +kernel
theorem dX12_noThing_10 : decode cX12_noThing 10 = .ok (.iconst 1, 1) := by decide +kernel
theorem dX12_noThing_11 : decode cX12_noThing 11 = .ok (.goto 4, 3) := by decide +kernel
theorem dX12_noThing_14 : decode cX12_noThing 14 = .ok (.iconst 0, 1) := by decide +kernel
theorem dX12_noThing_15 : decode cX12_noThing 15 = .ok (.ireturn, 1) := by decide +kernel
theorem dX12_drawn_0 : decode cX12_drawn 0 = .ok (.aload_n 0, 1) := by decide +kernel
theorem dX12_drawn_1 : decode cX12_drawn 1 = .ok (.getfield 13, 3) := by decide +kernel
theorem dX12_drawn_4 : decode cX12_drawn 4 = .ok (.bipush 6, 2) := by decide +kernel
theorem dX12_drawn_6 : decode cX12_drawn 6 = .ok (.ldc 91, 2) := by decide +kernel
theorem dX12_drawn_8 : decode cX12_drawn 8 = .ok (.aload_n 0, 1) := by decide +kernel
theorem dX12_drawn_9 : decode cX12_drawn 9 = .ok (.getfield 13, 3) := by decide +kernel
theorem dX12_drawn_12 : decode cX12_drawn 12 = .ok (.bipush 6, 2) := by decide +kernel
theorem dX12_drawn_14 : decode cX12_drawn 14 = .ok (.iaload, 1) := by decide +kernel
theorem dX12_drawn_15 : decode cX12_drawn 15 = .ok (.imul, 1) := by decide +kernel
theorem dX12_drawn_16 : decode cX12_drawn 16 = .ok (.sipush 12345, 3) := by decide +kernel
theorem dX12_drawn_19 : decode cX12_drawn 19 = .ok (.iadd, 1) := by decide +kernel
theorem dX12_drawn_20 : decode cX12_drawn 20 = .ok (.iastore, 1) := by decide +kernel
theorem dX12_drawn_21 : decode cX12_drawn 21 = .ok (.aload_n 0, 1) := by decide +kernel
theorem dX12_drawn_22 : decode cX12_drawn 22 = .ok (.getfield 13, 3) := by decide +kernel
theorem dX12_drawn_25 : decode cX12_drawn 25 = .ok (.bipush 6, 2) := by decide +kernel
theorem dX12_drawn_27 : decode cX12_drawn 27 = .ok (.iaload, 1) := by decide +kernel
theorem dX12_drawn_28 : decode cX12_drawn 28 = .ok (.bipush 16, 2) := by decide +kernel
theorem dX12_drawn_30 : decode cX12_drawn 30 = .ok (.ishr, 1) := by decide +kernel
theorem dX12_drawn_31 : decode cX12_drawn 31 = .ok (.sipush 32767, 3) := by decide +kernel
theorem dX12_drawn_34 : decode cX12_drawn 34 = .ok (.iand, 1) := by decide +kernel
theorem dX12_drawn_35 : decode cX12_drawn 35 = .ok (.iload_n 1, 1) := by decide +kernel
theorem dX12_drawn_36 : decode cX12_drawn 36 = .ok (.irem, 1) := by decide +kernel
theorem dX12_drawn_37 : decode cX12_drawn 37 = .ok (.ireturn, 1) := by decide +kernel
theorem dX12_feed_0 : decode cX12_feed 0 = .ok (.aload_n 0, 1) := by decide +kernel
theorem dX12_feed_1 : decode cX12_feed 1 = .ok (.iconst 0, 1) := by decide +kernel
theorem dX12_feed_2 : decode cX12_feed 2 = .ok (.putfield 3, 3) := by decide +kernel
theorem dX12_feed_5 : decode cX12_feed 5 = .ok (.aload_n 0, 1) := by decide +kernel
theorem dX12_feed_6 : decode cX12_feed 6 = .ok (.getfield 92, 3) := by decide +kernel
theorem dX12_feed_9 : decode cX12_feed 9 = .ok (.bipush 20, 2) := by decide +kernel
theorem dX12_feed_11 : decode cX12_feed 11 = .ok (.iadd, 1) := by decide +kernel
theorem dX12_feed_12 : decode cX12_feed 12 = .ok (.sipush 400, 3) := by decide +kernel
theorem dX12_feed_15 : decode cX12_feed 15 = .ok (.if_icmp .le 5, 3) := by decide +kernel
theorem dX12_feed_18 : decode cX12_feed 18 = .ok (.iconst (-1), 1) := by decide +kernel
theorem dX12_feed_19 : decode cX12_feed 19 = .ok (.ireturn, 1) := by decide +kernel
theorem dX12_feed_20 : decode cX12_feed 20 = .ok (.aload_n 0, 1) := by decide +kernel
theorem dX12_feed_21 : decode cX12_feed 21 = .ok (.getfield 36, 3) := by decide +kernel
theorem dX12_feed_24 : decode cX12_feed 24 = .ok (.iconst 0, 1) := by decide +kernel
theorem dX12_feed_25 : decode cX12_feed 25 = .ok (.iload_n 1, 1) := by decide +kernel
theorem dX12_feed_26 : decode cX12_feed 26 = .ok (.iastore, 1) := by decide +kernel
theorem dX12_feed_27 : decode cX12_feed 27 = .ok (.aload_n 0, 1) := by decide +kernel
theorem dX12_feed_28 : decode cX12_feed 28 = .ok (.getfield 36, 3) := by decide +kernel
theorem dX12_feed_31 : decode cX12_feed 31 = .ok (.iconst 1, 1) := by decide +kernel
theorem dX12_feed_32 : decode cX12_feed 32 = .ok (.iload_n 2, 1) := by decide +kernel
theorem dX12_feed_33 : decode cX12_feed 33 = .ok (.iastore, 1) := by decide +kernel
theorem dX12_feed_34 : decode cX12_feed 34 = .ok (.aload_n 0, 1) := by decide +kernel
theorem dX12_feed_35 : decode cX12_feed 35 = .ok (.getfield 36, 3) := by decide +kernel
theorem dX12_feed_38 : decode cX12_feed 38 = .ok (.iconst 2, 1) := by decide +kernel
theorem dX12_feed_39 : decode cX12_feed 39 = .ok (.iload_n 3, 1) := by decide +kernel
theorem dX12_feed_40 : decode cX12_feed 40 = .ok (.iastore, 1) := by decide +kernel
theorem dX12_feed_41 : decode cX12_feed 41 = .ok (.aload_n 0, 1) := by decide +kernel
theorem dX12_feed_42 : decode cX12_feed 42 = .ok (.getfield 36, 3) := by decide +kernel
theorem dX12_feed_45 : decode cX12_feed 45 = .ok (.iconst 3, 1) := by decide +kernel
theorem dX12_feed_46 : decode cX12_feed 46 = .ok (.iload 4, 2) := by decide +kernel
theorem dX12_feed_48 : decode cX12_feed 48 = .ok (.iastore, 1) := by decide +kernel
theorem dX12_feed_49 : decode cX12_feed 49 = .ok (.aload_n 0, 1) := by decide +kernel
theorem dX12_feed_50 : decode cX12_feed 50 = .ok (.getfield 36, 3) := by decide +kernel
theorem dX12_feed_53 : decode cX12_feed 53 = .ok (.iconst 4, 1) := by decide +kernel
theorem dX12_feed_54 : decode cX12_feed 54 = .ok (.iload 5, 2) := by decide +kernel
theorem dX12_feed_56 : decode cX12_feed 56 = .ok (.iastore, 1) := by decide +kernel
theorem dX12_feed_57 : decode cX12_feed 57 = .ok (.iconst 0, 1) := by decide +kernel
theorem dX12_feed_58 : decode cX12_feed 58 = .ok (.istore 6, 2) := by decide +kernel
theorem dX12_feed_60 : decode cX12_feed 60 = .ok (.iload 6, 2) := by decide +kernel
theorem dX12_feed_62 : decode cX12_feed 62 = .ok (.bipush 20, 2) := by decide +kernel
theorem dX12_feed_64 : decode cX12_feed 64 = .ok (.if_icmp .ge 42, 3) := by decide +kernel
theorem dX12_feed_67 : decode cX12_feed 67 = .ok (.aload_n 0, 1) := by decide +kernel
theorem dX12_feed_68 : decode cX12_feed 68 = .ok (.getfield 29, 3) := by decide +kernel
theorem dX12_feed_71 : decode cX12_feed 71 = .ok (.aload_n 0, 1) := by decide +kernel
theorem dX12_feed_72 : decode cX12_feed 72 = .ok (.getfield 92, 3) := by decide +kernel
theorem dX12_feed_75 : decode cX12_feed 75 = .ok (.iload 6, 2) := by decide +kernel
theorem dX12_feed_77 : decode cX12_feed 77 = .ok (.iadd, 1) := by decide +kernel
theorem dX12_feed_78 : decode cX12_feed 78 = .ok (.aload_n 0, 1) := by decide +kernel
theorem dX12_feed_79 : decode cX12_feed 79 = .ok (.getfield 36, 3) := by decide +kernel
theorem dX12_feed_82 : decode cX12_feed 82 = .ok (.iload 6, 2) := by decide +kernel
theorem dX12_feed_84 : decode cX12_feed 84 = .ok (.iconst 4, 1) := by decide +kernel
theorem dX12_feed_85 : decode cX12_feed 85 = .ok (.idiv, 1) := by decide +kernel
theorem dX12_feed_86 : decode cX12_feed 86 = .ok (.iaload, 1) := by decide +kernel
theorem dX12_feed_87 : decode cX12_feed 87 = .ok (.bipush 24, 2) := by decide +kernel
theorem dX12_feed_89 : decode cX12_feed 89 = .ok (.bipush 8, 2) := by decide +kernel
theorem dX12_feed_91 : decode cX12_feed 91 = .ok (.iload 6, 2) := by decide +kernel
theorem dX12_feed_93 : decode cX12_feed 93 = .ok (.iconst 4, 1) := by decide +kernel
theorem dX12_feed_94 : decode cX12_feed 94 = .ok (.irem, 1) := by decide +kernel
theorem dX12_feed_95 : decode cX12_feed 95 = .ok (.imul, 1) := by decide +kernel
theorem dX12_feed_96 : decode cX12_feed 96 = .ok (.isub, 1) := by decide +kernel
theorem dX12_feed_97 : decode cX12_feed 97 = .ok (.ishr, 1) := by decide +kernel
theorem dX12_feed_98 : decode cX12_feed 98 = .ok (.i2b, 1) := by decide +kernel
theorem dX12_feed_99 : decode cX12_feed 99 = .ok (.bastore, 1) := by decide +kernel
theorem dX12_feed_100 : decode cX12_feed 100 = .ok (.iinc 6 1, 3) := by decide +kernel
theorem dX12_feed_103 : decode cX12_feed 103 = .ok (.goto (-43), 3) := by decide +kernel
theorem dX12_feed_106 : decode cX12_feed 106 = .ok (.aload_n 0, 1) := by decide +kernel
theorem dX12_feed_107 : decode cX12_feed 107 = .ok (.dup, 1) := by decide +kernel
theorem dX12_feed_108 : decode cX12_feed 108 = .ok (.getfield 92, 3) := by decide +kernel
theorem dX12_feed_111 : decode cX12_feed 111 = .ok (.bipush 20, 2) := by decide +kernel
theorem dX12_feed_113 : decode cX12_feed 113 = .ok (.iadd, 1) := by decide +kernel
theorem dX12_feed_114 : decode cX12_feed 114 = .ok (.putfield 92, 3) := by decide +kernel
theorem dX12_feed_117 : decode cX12_feed 117 = .ok (.aload_n 0, 1) := by decide +kernel
theorem dX12_feed_118 : decode cX12_feed 118 = .ok (.getfield 92, 3) := by decide +kernel
theorem dX12_feed_121 : decode cX12_feed 121 = .ok (.ireturn, 1) := by decide +kernel
theorem dX12_end_0 : decode cX12_end 0 = .ok (.aload_n 0, 1) := by decide +kernel
theorem dX12_end_1 : decode cX12_end 1 = .ok (.iconst 0, 1) := by decide +kernel
theorem dX12_end_2 : decode cX12_end 2 = .ok (.putfield 3, 3) := by decide +kernel
theorem dX12_end_5 : decode cX12_end 5 = .ok (.iload_n 1, 1) := by decide +kernel
theorem dX12_end_6 : decode cX12_end 6 = .ok (.ifCond .lt 11, 3) := by decide +kernel
theorem dX12_end_9 : decode cX12_end 9 = .ok (.iload_n 1, 1) := by decide +kernel
theorem dX12_end_10 : decode cX12_end 10 = .ok (.aload_n 0, 1) := by decide +kernel
theorem dX12_end_11 : decode cX12_end 11 = .ok (.getfield 92, 3) := by decide +kernel
theorem dX12_end_14 : decode cX12_end 14 = .ok (.if_icmp .le 5, 3) := by decide +kernel
theorem dX12_end_17 : decode cX12_end 17 = .ok (.iconst 0, 1) := by decide +kernel
theorem dX12_end_18 : decode cX12_end 18 = .ok (.ireturn, 1) := by decide +kernel
theorem dX12_end_19 : decode cX12_end 19 = .ok (.aload_n 0, 1) := by decide +kernel
theorem dX12_end_20 : decode cX12_end 20 = .ok (.iload_n 1, 1) := by decide +kernel
theorem dX12_end_21 : decode cX12_end 21 = .ok (.putfield 92, 3) := by decide +kernel
theorem dX12_end_24 : decode cX12_end 24 = .ok (.iconst 1, 1) := by decide +kernel
theorem dX12_end_25 : decode cX12_end 25 = .ok (.ireturn, 1) := by decide +kernel
theorem dX12_isAt_0 : decode cX12_isAt 0 = .ok (.aload_n 0, 1) := by decide +kernel
theorem dX12_isAt_1 : decode cX12_isAt 1 = .ok (.getfield 95, 3) := by decide +kernel
theorem dX12_isAt_4 : decode cX12_isAt 4 = .ok (.aload_n 0, 1) := by decide +kernel
theorem dX12_isAt_5 : decode cX12_isAt 5 = .ok (.getfield 98, 3) := by decide +kernel
theorem dX12_isAt_8 : decode cX12_isAt 8 = .ok (.if_icmp .ge 33, 3) := by decide +kernel
theorem dX12_isAt_11 : decode cX12_isAt 11 = .ok (.aload_n 0, 1) := by decide +kernel
theorem dX12_isAt_12 : decode cX12_isAt 12 = .ok (.getfield 29, 3) := by decide +kernel
theorem dX12_isAt_15 : decode cX12_isAt 15 = .ok (.aload_n 0, 1) := by decide +kernel
theorem dX12_isAt_16 : decode cX12_isAt 16 = .ok (.getfield 95, 3) := by decide +kernel
theorem dX12_isAt_19 : decode cX12_isAt 19 = .ok (.baload, 1) := by decide +kernel
theorem dX12_isAt_20 : decode cX12_isAt 20 = .ok (.iload_n 1, 1) := by decide +kernel
theorem dX12_isAt_21 : decode cX12_isAt 21 = .ok (.if_icmp .lt 20, 3) := by decide +kernel
theorem dX12_isAt_24 : decode cX12_isAt 24 = .ok (.aload_n 0, 1) := by decide +kernel
theorem dX12_isAt_25 : decode cX12_isAt 25 = .ok (.getfield 29, 3) := by decide +kernel
theorem dX12_isAt_28 : decode cX12_isAt 28 = .ok (.aload_n 0, 1) := by decide +kernel
theorem dX12_isAt_29 : decode cX12_isAt 29 = .ok (.getfield 95, 3) := by decide +kernel
theorem dX12_isAt_32 : decode cX12_isAt 32 = .ok (.baload, 1) := by decide +kernel
theorem dX12_isAt_33 : decode cX12_isAt 33 = .ok (.iload_n 2, 1) := by decide +kernel
theorem dX12_isAt_34 : decode cX12_isAt 34 = .ok (.if_icmp .gt 7, 3) := by decide +kernel
theorem dX12_isAt_37 : decode cX12_isAt 37 = .ok (.iconst 1, 1) := by decide +kernel
theorem dX12_isAt_38 : decode cX12_isAt 38 = .ok (.goto 4, 3) := by decide +kernel
theorem dX12_isAt_41 : decode cX12_isAt 41 = .ok (.iconst 0, 1) := by decide +kernel
theorem dX12_isAt_42 : decode cX12_isAt 42 = .ok (.ireturn, 1) := by decide +kernel
theorem dX12_blanks_0 : decode cX12_blanks 0 = .ok (.aload_n 0, 1) := by decide +kernel
theorem dX12_blanks_1 : decode cX12_blanks 1 = .ok (.bipush 32, 2) := by decide +kernel
theorem dX12_blanks_3 : decode cX12_blanks 3 = .ok (.bipush 32, 2) := by decide +kernel
theorem dX12_blanks_5 : decode cX12_blanks 5 = .ok (.invokevirtual 101, 3) := by decide +kernel
theorem dX12_blanks_8 : decode cX12_blanks 8 = .ok (.ifCond .eq 16, 3) := by decide +kernel
theorem dX12_blanks_11 : decode cX12_blanks 11 = .ok (.aload_n 0, 1) := by decide +kernel
theorem dX12_blanks_12 : decode cX12_blanks 12 = .ok (.dup, 1) := by decide +kernel
theorem dX12_blanks_13 : decode cX12_blanks 13 = .ok (.getfield 95, 3) := by decide +kernel
theorem dX12_blanks_16 : decode cX12_blanks 16 = .ok (.iconst 1, 1) := by decide +kernel
theorem dX12_blanks_17 : decode cX12_blanks 17 = .ok (.iadd, 1) := by decide +kernel
theorem dX12_blanks_18 : decode cX12_blanks 18 = .ok (.putfield 95, 3) := by decide +kernel
theorem dX12_blanks_21 : decode cX12_blanks 21 = .ok (.goto (-21), 3) := by decide +kernel
theorem dX12_blanks_24 : decode cX12_blanks 24 = .ok (.aload_n 0, 1) := by decide +kernel
theorem dX12_blanks_25 : decode cX12_blanks 25 = .ok (.aload_n 0, 1) := by decide +kernel
theorem dX12_blanks_26 : decode cX12_blanks 26 = .ok (.getfield 95, 3) := by decide +kernel
theorem dX12_blanks_29 : decode cX12_blanks 29 = .ok (.putfield 105, 3) := by decide +kernel
theorem dX12_blanks_32 : decode cX12_blanks 32 = .ok (.return_, 1) := by decide +kernel
theorem dX12_letters_0 : decode cX12_letters 0 = .ok (.aload_n 0, 1) := by decide +kernel
theorem dX12_letters_1 : decode cX12_letters 1 = .ok (.invokevirtual 108, 3) := by decide +kernel
theorem dX12_letters_4 : decode cX12_letters 4 = .ok (.aload_n 0, 1) := by decide +kernel
theorem dX12_letters_5 : decode cX12_letters 5 = .ok (.bipush 97, 2) := by decide +kernel
theorem dX12_letters_7 : decode cX12_letters 7 = .ok (.bipush 122, 2) := by decide +kernel
theorem dX12_letters_9 : decode cX12_letters 9 = .ok (.invokevirtual 101, 3) := by decide +kernel
theorem dX12_letters_12 : decode cX12_letters 12 = .ok (.ifCond .eq 16, 3) := by decide +kernel
theorem dX12_letters_15 : decode cX12_letters 15 = .ok (.aload_n 0, 1) := by decide +kernel
theorem dX12_letters_16 : decode cX12_letters 16 = .ok (.dup, 1) := by decide +kernel
theorem dX12_letters_17 : decode cX12_letters 17 = .ok (.getfield 95, 3) := by decide +kernel
theorem dX12_letters_20 : decode cX12_letters 20 = .ok (.iconst 1, 1) := by decide +kernel
theorem dX12_letters_21 : decode cX12_letters 21 = .ok (.iadd, 1) := by decide +kernel
theorem dX12_letters_22 : decode cX12_letters 22 = .ok (.putfield 95, 3) := by decide +kernel
theorem dX12_letters_25 : decode cX12_letters 25 = .ok (.goto (-21), 3) := by decide +kernel
theorem dX12_letters_28 : decode cX12_letters 28 = .ok (.return_, 1) := by decide +kernel
theorem dX12_isWord_0 : decode cX12_isWord 0 = .ok (.aload_n 0, 1) := by decide +kernel
theorem dX12_isWord_1 : decode cX12_isWord 1 = .ok (.getfield 95, 3) := by decide +kernel
theorem dX12_isWord_4 : decode cX12_isWord 4 = .ok (.aload_n 0, 1) := by decide +kernel
theorem dX12_isWord_5 : decode cX12_isWord 5 = .ok (.getfield 105, 3) := by decide +kernel
theorem dX12_isWord_8 : decode cX12_isWord 8 = .ok (.isub, 1) := by decide +kernel
theorem dX12_isWord_9 : decode cX12_isWord 9 = .ok (.aload_n 1, 1) := by decide +kernel
theorem dX12_isWord_10 : decode cX12_isWord 10 = .ok (.invokevirtual 111, 3) := by decide +kernel
theorem dX12_isWord_13 : decode cX12_isWord 13 = .ok (.if_icmp .ne 7, 3) := by decide +kernel
theorem dX12_isWord_16 : decode cX12_isWord 16 = .ok (.iconst 1, 1) := by decide +kernel
theorem dX12_isWord_17 : decode cX12_isWord 17 = .ok (.goto 4, 3) := by decide +kernel
theorem dX12_isWord_20 : decode cX12_isWord 20 = .ok (.iconst 0, 1) := by decide +kernel
theorem dX12_isWord_21 : decode cX12_isWord 21 = .ok (.istore_n 2, 1) := by decide +kernel
theorem dX12_isWord_22 : decode cX12_isWord 22 = .ok (.iconst 0, 1) := by decide +kernel
theorem dX12_isWord_23 : decode cX12_isWord 23 = .ok (.istore_n 3, 1) := by decide +kernel
theorem dX12_isWord_24 : decode cX12_isWord 24 = .ok (.iload_n 2, 1) := by decide +kernel
theorem dX12_isWord_25 : decode cX12_isWord 25 = .ok (.ifCond .eq 42, 3) := by decide +kernel
theorem dX12_isWord_28 : decode cX12_isWord 28 = .ok (.iload_n 3, 1) := by decide +kernel
theorem dX12_isWord_29 : decode cX12_isWord 29 = .ok (.aload_n 1, 1) := by decide +kernel
theorem dX12_isWord_30 : decode cX12_isWord 30 = .ok (.invokevirtual 111, 3) := by decide +kernel
theorem dX12_isWord_33 : decode cX12_isWord 33 = .ok (.if_icmp .ge 34, 3) := by decide +kernel
theorem dX12_isWord_36 : decode cX12_isWord 36 = .ok (.aload_n 0, 1) := by decide +kernel
theorem dX12_isWord_37 : decode cX12_isWord 37 = .ok (.getfield 29, 3) := by decide +kernel
theorem dX12_isWord_40 : decode cX12_isWord 40 = .ok (.aload_n 0, 1) := by decide +kernel
theorem dX12_isWord_41 : decode cX12_isWord 41 = .ok (.getfield 105, 3) := by decide +kernel
theorem dX12_isWord_44 : decode cX12_isWord 44 = .ok (.iload_n 3, 1) := by decide +kernel
theorem dX12_isWord_45 : decode cX12_isWord 45 = .ok (.iadd, 1) := by decide +kernel
theorem dX12_isWord_46 : decode cX12_isWord 46 = .ok (.baload, 1) := by decide +kernel
theorem dX12_isWord_47 : decode cX12_isWord 47 = .ok (.aload_n 1, 1) := by decide +kernel
theorem dX12_isWord_48 : decode cX12_isWord 48 = .ok (.iload_n 3, 1) := by decide +kernel
theorem dX12_isWord_49 : decode cX12_isWord 49 = .ok (.invokevirtual 116, 3) := by decide +kernel
theorem dX12_isWord_52 : decode cX12_isWord 52 = .ok (.if_icmp .ne 7, 3) := by decide +kernel
theorem dX12_isWord_55 : decode cX12_isWord 55 = .ok (.iconst 1, 1) := by decide +kernel
theorem dX12_isWord_56 : decode cX12_isWord 56 = .ok (.goto 4, 3) := by decide +kernel
theorem dX12_isWord_59 : decode cX12_isWord 59 = .ok (.iconst 0, 1) := by decide +kernel
theorem dX12_isWord_60 : decode cX12_isWord 60 = .ok (.istore_n 2, 1) := by decide +kernel
theorem dX12_isWord_61 : decode cX12_isWord 61 = .ok (.iinc 3 1, 3) := by decide +kernel
theorem dX12_isWord_64 : decode cX12_isWord 64 = .ok (.goto (-40), 3) := by decide +kernel
theorem dX12_isWord_67 : decode cX12_isWord 67 = .ok (.iload_n 2, 1) := by decide +kernel
theorem dX12_isWord_68 : decode cX12_isWord 68 = .ok (.ireturn, 1) := by decide +kernel
theorem dX12_passes_0 : decode cX12_passes 0 = .ok (.aload_n 0, 1) := by decide +kernel
theorem dX12_passes_1 : decode cX12_passes 1 = .ok (.invokevirtual 120, 3) := by decide +kernel
theorem dX12_passes_4 : decode cX12_passes 4 = .ok (.aload_n 0, 1) := by decide +kernel
theorem dX12_passes_5 : decode cX12_passes 5 = .ok (.aload_n 1, 1) := by decide +kernel
theorem dX12_passes_6 : decode cX12_passes 6 = .ok (.invokevirtual 123, 3) := by decide +kernel
theorem dX12_passes_9 : decode cX12_passes 9 = .ok (.ifCond .eq 5, 3) := by decide +kernel
theorem dX12_passes_12 : decode cX12_passes 12 = .ok (.iconst 1, 1) := by decide +kernel
theorem dX12_passes_13 : decode cX12_passes 13 = .ok (.ireturn, 1) := by decide +kernel
theorem dX12_passes_14 : decode cX12_passes 14 = .ok (.aload_n 0, 1) := by decide +kernel
theorem dX12_passes_15 : decode cX12_passes 15 = .ok (.aload_n 0, 1) := by decide +kernel
theorem dX12_passes_16 : decode cX12_passes 16 = .ok (.getfield 105, 3) := by decide +kernel
theorem dX12_passes_19 : decode cX12_passes 19 = .ok (.putfield 95, 3) := by decide +kernel
theorem dX12_passes_22 : decode cX12_passes 22 = .ok (.iconst 0, 1) := by decide +kernel
theorem dX12_passes_23 : decode cX12_passes 23 = .ok (.ireturn, 1) := by decide +kernel
theorem dX12_sign_0 : decode cX12_sign 0 = .ok (.aload_n 0, 1) := by decide +kernel
theorem dX12_sign_1 : decode cX12_sign 1 = .ok (.invokevirtual 108, 3) := by decide +kernel
theorem dX12_sign_4 : decode cX12_sign 4 = .ok (.aload_n 0, 1) := by decide +kernel
theorem dX12_sign_5 : decode cX12_sign 5 = .ok (.iload_n 1, 1) := by decide +kernel
theorem dX12_sign_6 : decode cX12_sign 6 = .ok (.iload_n 1, 1) := by decide +kernel
theorem dX12_sign_7 : decode cX12_sign 7 = .ok (.invokevirtual 101, 3) := by decide +kernel
theorem dX12_sign_10 : decode cX12_sign 10 = .ok (.ifCond .ne 5, 3) := by decide +kernel
theorem dX12_sign_13 : decode cX12_sign 13 = .ok (.iconst 0, 1) := by decide +kernel
theorem dX12_sign_14 : decode cX12_sign 14 = .ok (.ireturn, 1) := by decide +kernel
theorem dX12_sign_15 : decode cX12_sign 15 = .ok (.aload_n 0, 1) := by decide +kernel
theorem dX12_sign_16 : decode cX12_sign 16 = .ok (.dup, 1) := by decide +kernel
theorem dX12_sign_17 : decode cX12_sign 17 = .ok (.getfield 95, 3) := by decide +kernel
theorem dX12_sign_20 : decode cX12_sign 20 = .ok (.iconst 1, 1) := by decide +kernel
theorem dX12_sign_21 : decode cX12_sign 21 = .ok (.iadd, 1) := by decide +kernel
theorem dX12_sign_22 : decode cX12_sign 22 = .ok (.putfield 95, 3) := by decide +kernel
theorem dX12_sign_25 : decode cX12_sign 25 = .ok (.iconst 1, 1) := by decide +kernel
theorem dX12_sign_26 : decode cX12_sign 26 = .ok (.ireturn, 1) := by decide +kernel
theorem dX12_number_0 : decode cX12_number 0 = .ok (.aload_n 0, 1) := by decide +kernel
theorem dX12_number_1 : decode cX12_number 1 = .ok (.invokevirtual 108, 3) := by decide +kernel
theorem dX12_number_4 : decode cX12_number 4 = .ok (.iconst 0, 1) := by decide +kernel
theorem dX12_number_5 : decode cX12_number 5 = .ok (.istore_n 3, 1) := by decide +kernel
theorem dX12_number_6 : decode cX12_number 6 = .ok (.aload_n 0, 1) := by decide +kernel
theorem dX12_number_7 : decode cX12_number 7 = .ok (.bipush 48, 2) := by decide +kernel
theorem dX12_number_9 : decode cX12_number 9 = .ok (.bipush 57, 2) := by decide +kernel
theorem dX12_number_11 : decode cX12_number 11 = .ok (.invokevirtual 101, 3) := by decide +kernel
theorem dX12_number_14 : decode cX12_number 14 = .ok (.ifCond .eq 51, 3) := by decide +kernel
theorem dX12_number_17 : decode cX12_number 17 = .ok (.aload_n 0, 1) := by decide +kernel
theorem dX12_number_18 : decode cX12_number 18 = .ok (.getfield 95, 3) := by decide +kernel
theorem dX12_number_21 : decode cX12_number 21 = .ok (.aload_n 0, 1) := by decide +kernel
theorem dX12_number_22 : decode cX12_number 22 = .ok (.getfield 105, 3) := by decide +kernel
theorem dX12_number_25 : decode cX12_number 25 = .ok (.isub, 1) := by decide +kernel
theorem dX12_number_26 : decode cX12_number 26 = .ok (.iconst 3, 1) := by decide +kernel
theorem dX12_number_27 : decode cX12_number 27 = .ok (.if_icmp .ge 23, 3) := by decide +kernel
theorem dX12_number_30 : decode cX12_number 30 = .ok (.bipush 10, 2) := by decide +kernel
theorem dX12_number_32 : decode cX12_number 32 = .ok (.iload_n 3, 1) := by decide +kernel
theorem dX12_number_33 : decode cX12_number 33 = .ok (.imul, 1) := by decide +kernel
theorem dX12_number_34 : decode cX12_number 34 = .ok (.aload_n 0, 1) := by decide +kernel
theorem dX12_number_35 : decode cX12_number 35 = .ok (.getfield 29, 3) := by decide +kernel
theorem dX12_number_38 : decode cX12_number 38 = .ok (.aload_n 0, 1) := by decide +kernel
theorem dX12_number_39 : decode cX12_number 39 = .ok (.getfield 95, 3) := by decide +kernel
theorem dX12_number_42 : decode cX12_number 42 = .ok (.baload, 1) := by decide +kernel
theorem dX12_number_43 : decode cX12_number 43 = .ok (.iadd, 1) := by decide +kernel
theorem dX12_number_44 : decode cX12_number 44 = .ok (.bipush 48, 2) := by decide +kernel
theorem dX12_number_46 : decode cX12_number 46 = .ok (.isub, 1) := by decide +kernel
theorem dX12_number_47 : decode cX12_number 47 = .ok (.goto 4, 3) := by decide +kernel
theorem dX12_number_50 : decode cX12_number 50 = .ok (.iload_n 3, 1) := by decide +kernel
theorem dX12_number_51 : decode cX12_number 51 = .ok (.istore_n 3, 1) := by decide +kernel
theorem dX12_number_52 : decode cX12_number 52 = .ok (.aload_n 0, 1) := by decide +kernel
theorem dX12_number_53 : decode cX12_number 53 = .ok (.dup, 1) := by decide +kernel
theorem dX12_number_54 : decode cX12_number 54 = .ok (.getfield 95, 3) := by decide +kernel
theorem dX12_number_57 : decode cX12_number 57 = .ok (.iconst 1, 1) := by decide +kernel
theorem dX12_number_58 : decode cX12_number 58 = .ok (.iadd, 1) := by decide +kernel
theorem dX12_number_59 : decode cX12_number 59 = .ok (.putfield 95, 3) := by decide +kernel
theorem dX12_number_62 : decode cX12_number 62 = .ok (.goto (-56), 3) := by decide +kernel
theorem dX12_number_65 : decode cX12_number 65 = .ok (.aload_n 0, 1) := by decide +kernel
theorem dX12_number_66 : decode cX12_number 66 = .ok (.getfield 95, 3) := by decide +kernel
theorem dX12_number_69 : decode cX12_number 69 = .ok (.aload_n 0, 1) := by decide +kernel
theorem dX12_number_70 : decode cX12_number 70 = .ok (.getfield 105, 3) := by decide +kernel
theorem dX12_number_73 : decode cX12_number 73 = .ok (.if_icmp .eq 26, 3) := by decide +kernel
theorem dX12_number_76 : decode cX12_number 76 = .ok (.aload_n 0, 1) := by decide +kernel
theorem dX12_number_77 : decode cX12_number 77 = .ok (.getfield 95, 3) := by decide +kernel
theorem dX12_number_80 : decode cX12_number 80 = .ok (.aload_n 0, 1) := by decide +kernel
theorem dX12_number_81 : decode cX12_number 81 = .ok (.getfield 105, 3) := by decide +kernel
theorem dX12_number_84 : decode cX12_number 84 = .ok (.isub, 1) := by decide +kernel
theorem dX12_number_85 : decode cX12_number 85 = .ok (.iconst 3, 1) := by decide +kernel
theorem dX12_number_86 : decode cX12_number 86 = .ok (.if_icmp .gt 13, 3) := by decide +kernel
theorem dX12_number_89 : decode cX12_number 89 = .ok (.iload_n 3, 1) := by decide +kernel
theorem dX12_number_90 : decode cX12_number 90 = .ok (.iload_n 1, 1) := by decide +kernel
theorem dX12_number_91 : decode cX12_number 91 = .ok (.if_icmp .lt 8, 3) := by decide +kernel
theorem dX12_number_94 : decode cX12_number 94 = .ok (.iload_n 3, 1) := by decide +kernel
theorem dX12_number_95 : decode cX12_number 95 = .ok (.iload_n 2, 1) := by decide +kernel
theorem dX12_number_96 : decode cX12_number 96 = .ok (.if_icmp .le 7, 3) := by decide +kernel
theorem dX12_number_99 : decode cX12_number 99 = .ok (.iconst (-1), 1) := by decide +kernel
theorem dX12_number_100 : decode cX12_number 100 = .ok (.goto 4, 3) := by decide +kernel
theorem dX12_number_103 : decode cX12_number 103 = .ok (.iload_n 3, 1) := by decide +kernel
theorem dX12_number_104 : decode cX12_number 104 = .ok (.ireturn, 1) := by decide +kernel
theorem dX12_after_0 : decode cX12_after 0 = .ok (.aload_n 0, 1) := by decide +kernel
theorem dX12_after_1 : decode cX12_after 1 = .ok (.invokevirtual 120, 3) := by decide +kernel
theorem dX12_after_4 : decode cX12_after 4 = .ok (.aload_n 0, 1) := by decide +kernel
theorem dX12_after_5 : decode cX12_after 5 = .ok (.aload_n 1, 1) := by decide +kernel
theorem dX12_after_6 : decode cX12_after 6 = .ok (.invokevirtual 123, 3) := by decide +kernel
theorem dX12_after_9 : decode cX12_after 9 = .ok (.ifCond .eq 12, 3) := by decide +kernel
theorem dX12_after_12 : decode cX12_after 12 = .ok (.aload_n 0, 1) := by decide +kernel
theorem dX12_after_13 : decode cX12_after 13 = .ok (.iload_n 2, 1) := by decide +kernel
theorem dX12_after_14 : decode cX12_after 14 = .ok (.iload_n 3, 1) := by decide +kernel
theorem dX12_after_15 : decode cX12_after 15 = .ok (.invokevirtual 127, 3) := by decide +kernel
theorem dX12_after_18 : decode cX12_after 18 = .ok (.goto 4, 3) := by decide +kernel
theorem dX12_after_21 : decode cX12_after 21 = .ok (.iconst (-1), 1) := by decide +kernel
theorem dX12_after_22 : decode cX12_after 22 = .ok (.ireturn, 1) := by decide +kernel
theorem dX12_told_0 : decode cX12_told 0 = .ok (.aload_n 0, 1) := by decide +kernel
theorem dX12_told_1 : decode cX12_told 1 = .ok (.aload_n 1, 1) := by decide +kernel
theorem dX12_told_2 : decode cX12_told 2 = .ok (.invokevirtual 130, 3) := by decide +kernel
theorem dX12_told_5 : decode cX12_told 5 = .ok (.ifCond .ne 6, 3) := by decide +kernel
theorem dX12_told_8 : decode cX12_told 8 = .ok (.iload 4, 2) := by decide +kernel
theorem dX12_told_10 : decode cX12_told 10 = .ok (.ireturn, 1) := by decide +kernel
theorem dX12_told_11 : decode cX12_told 11 = .ok (.aload_n 0, 1) := by decide +kernel
theorem dX12_told_12 : decode cX12_told 12 = .ok (.iload_n 2, 1) := by decide +kernel
theorem dX12_told_13 : decode cX12_told 13 = .ok (.iload_n 3, 1) := by decide +kernel
theorem dX12_told_14 : decode cX12_told 14 = .ok (.invokevirtual 127, 3) := by decide +kernel
theorem dX12_told_17 : decode cX12_told 17 = .ok (.istore 5, 2) := by decide +kernel
theorem dX12_told_19 : decode cX12_told 19 = .ok (.iload 5, 2) := by decide +kernel
theorem dX12_told_21 : decode cX12_told 21 = .ok (.ifCond .ge 8, 3) := by decide +kernel
theorem dX12_told_24 : decode cX12_told 24 = .ok (.ldc 133, 2) := by decide +kernel
theorem dX12_told_26 : decode cX12_told 26 = .ok (.goto 5, 3) := by decide +kernel
theorem dX12_told_29 : decode cX12_told 29 = .ok (.iload 5, 2) := by decide +kernel
theorem dX12_told_31 : decode cX12_told 31 = .ok (.ireturn, 1) := by decide +kernel
theorem dX12_fault_0 : decode cX12_fault 0 = .ok (.aload_n 0, 1) := by decide +kernel
theorem dX12_fault_1 : decode cX12_fault 1 = .ok (.iconst 0, 1) := by decide +kernel
theorem dX12_fault_2 : decode cX12_fault 2 = .ok (.putfield 3, 3) := by decide +kernel
theorem dX12_fault_5 : decode cX12_fault 5 = .ok (.aload_n 0, 1) := by decide +kernel
theorem dX12_fault_6 : decode cX12_fault 6 = .ok (.getfield 33, 3) := by decide +kernel
theorem dX12_fault_9 : decode cX12_fault 9 = .ok (.ireturn, 1) := by decide +kernel
theorem dX12_uses_0 : decode cX12_uses 0 = .ok (.aload_n 0, 1) := by decide +kernel
theorem dX12_uses_1 : decode cX12_uses 1 = .ok (.iconst 0, 1) := by decide +kernel
theorem dX12_uses_2 : decode cX12_uses 2 = .ok (.putfield 3, 3) := by decide +kernel
theorem dX12_uses_5 : decode cX12_uses 5 = .ok (.aload_n 0, 1) := by decide +kernel
theorem dX12_uses_6 : decode cX12_uses 6 = .ok (.aload_n 0, 1) := by decide +kernel
theorem dX12_uses_7 : decode cX12_uses 7 = .ok (.getfield 92, 3) := by decide +kernel
theorem dX12_uses_10 : decode cX12_uses 10 = .ok (.putfield 98, 3) := by decide +kernel
theorem dX12_uses_13 : decode cX12_uses 13 = .ok (.aload_n 0, 1) := by decide +kernel
theorem dX12_uses_14 : decode cX12_uses 14 = .ok (.iconst 0, 1) := by decide +kernel
theorem dX12_uses_15 : decode cX12_uses 15 = .ok (.putfield 92, 3) := by decide +kernel
theorem dX12_uses_18 : decode cX12_uses 18 = .ok (.aload_n 0, 1) := by decide +kernel
theorem dX12_uses_19 : decode cX12_uses 19 = .ok (.iconst 0, 1) := by decide +kernel
theorem dX12_uses_20 : decode cX12_uses 20 = .ok (.putfield 95, 3) := by decide +kernel
theorem dX12_uses_23 : decode cX12_uses 23 = .ok (.return_, 1) := by decide +kernel
theorem dX12_readNumber_0 : decode cX12_readNumber 0 = .ok (.aload_n 0, 1) := by decide +kernel
theorem dX12_readNumber_1 : decode cX12_readNumber 1 = .ok (.iload_n 2, 1) := by decide +kernel
theorem dX12_readNumber_2 : decode cX12_readNumber 2 = .ok (.iload_n 3, 1) := by decide +kernel
theorem dX12_readNumber_3 : decode cX12_readNumber 3 = .ok (.invokevirtual 127, 3) := by decide +kernel
theorem dX12_readNumber_6 : decode cX12_readNumber 6 = .ok (.istore 4, 2) := by decide +kernel
theorem dX12_readNumber_8 : decode cX12_readNumber 8 = .ok (.aload_n 0, 1) := by decide +kernel
theorem dX12_readNumber_9 : decode cX12_readNumber 9 = .ok (.getfield 13, 3) := by decide +kernel
theorem dX12_readNumber_12 : decode cX12_readNumber 12 = .ok (.iload_n 1, 1) := by decide +kernel
theorem dX12_readNumber_13 : decode cX12_readNumber 13 = .ok (.iload 4, 2) := by decide +kernel
theorem dX12_readNumber_15 : decode cX12_readNumber 15 = .ok (.ifCond .ge 12, 3) := by decide +kernel
theorem dX12_readNumber_18 : decode cX12_readNumber 18 = .ok (.aload_n 0, 1) := by decide +kernel
theorem dX12_readNumber_19 : decode cX12_readNumber 19 = .ok (.getfield 13, 3) := by decide +kernel
theorem dX12_readNumber_22 : decode cX12_readNumber 22 = .ok (.iload_n 1, 1) := by decide +kernel
theorem dX12_readNumber_23 : decode cX12_readNumber 23 = .ok (.iaload, 1) := by decide +kernel
theorem dX12_readNumber_24 : decode cX12_readNumber 24 = .ok (.goto 5, 3) := by decide +kernel
theorem dX12_readNumber_27 : decode cX12_readNumber 27 = .ok (.iload 4, 2) := by decide +kernel
theorem dX12_readNumber_29 : decode cX12_readNumber 29 = .ok (.iastore, 1) := by decide +kernel
theorem dX12_readNumber_30 : decode cX12_readNumber 30 = .ok (.iload 4, 2) := by decide +kernel
theorem dX12_readNumber_32 : decode cX12_readNumber 32 = .ok (.ifCond .lt 7, 3) := by decide +kernel
theorem dX12_readNumber_35 : decode cX12_readNumber 35 = .ok (.iconst 1, 1) := by decide +kernel
theorem dX12_readNumber_36 : decode cX12_readNumber 36 = .ok (.goto 4, 3) := by decide +kernel
theorem dX12_readNumber_39 : decode cX12_readNumber 39 = .ok (.iconst 0, 1) := by decide +kernel
theorem dX12_readNumber_40 : decode cX12_readNumber 40 = .ok (.ireturn, 1) := by decide +kernel
theorem dX12_letterTold_0 : decode cX12_letterTold 0 = .ok (.aload_n 0, 1) := by decide +kernel
theorem dX12_letterTold_1 : decode cX12_letterTold 1 = .ok (.invokevirtual 120, 3) := by decide +kernel
theorem dX12_letterTold_4 : decode cX12_letterTold 4 = .ok (.aload_n 0, 1) := by decide +kernel
theorem dX12_letterTold_5 : decode cX12_letterTold 5 = .ok (.getfield 95, 3) := by decide +kernel
theorem dX12_letterTold_8 : decode cX12_letterTold 8 = .ok (.aload_n 0, 1) := by decide +kernel
theorem dX12_letterTold_9 : decode cX12_letterTold 9 = .ok (.getfield 105, 3) := by decide +kernel
theorem dX12_letterTold_12 : decode cX12_letterTold 12 = .ok (.isub, 1) := by decide +kernel
theorem dX12_letterTold_13 : decode cX12_letterTold 13 = .ok (.iconst 1, 1) := by decide +kernel
theorem dX12_letterTold_14 : decode cX12_letterTold 14 = .ok (.if_icmp .ne 37, 3) := by decide +kernel
theorem dX12_letterTold_17 : decode cX12_letterTold 17 = .ok (.aload_n 0, 1) := by decide +kernel
theorem dX12_letterTold_18 : decode cX12_letterTold 18 = .ok (.getfield 29, 3) := by decide +kernel
theorem dX12_letterTold_21 : decode cX12_letterTold 21 = .ok (.aload_n 0, 1) := by decide +kernel
theorem dX12_letterTold_22 : decode cX12_letterTold 22 = .ok (.getfield 105, 3) := by decide +kernel
theorem dX12_letterTold_25 : decode cX12_letterTold 25 = .ok (.baload, 1) := by decide +kernel
theorem dX12_letterTold_26 : decode cX12_letterTold 26 = .ok (.bipush 97, 2) := by decide +kernel
theorem dX12_letterTold_28 : decode cX12_letterTold 28 = .ok (.bipush 104, 2) := by decide +kernel
theorem dX12_letterTold_30 : decode cX12_letterTold 30 = .ok (.invokestatic 87, 3) := by decide +kernel
theorem dX12_letterTold_33 : decode cX12_letterTold 33 = .ok (.ifCond .eq 18, 3) := by decide +kernel
theorem dX12_letterTold_36 : decode cX12_letterTold 36 = .ok (.aload_n 0, 1) := by decide +kernel
theorem dX12_letterTold_37 : decode cX12_letterTold 37 = .ok (.getfield 29, 3) := by decide +kernel
theorem dX12_letterTold_40 : decode cX12_letterTold 40 = .ok (.aload_n 0, 1) := by decide +kernel
theorem dX12_letterTold_41 : decode cX12_letterTold 41 = .ok (.getfield 105, 3) := by decide +kernel
theorem dX12_letterTold_44 : decode cX12_letterTold 44 = .ok (.baload, 1) := by decide +kernel
theorem dX12_letterTold_45 : decode cX12_letterTold 45 = .ok (.bipush 97, 2) := by decide +kernel
theorem dX12_letterTold_47 : decode cX12_letterTold 47 = .ok (.isub, 1) := by decide +kernel
theorem dX12_letterTold_48 : decode cX12_letterTold 48 = .ok (.goto 4, 3) := by decide +kernel
theorem dX12_letterTold_51 : decode cX12_letterTold 51 = .ok (.iconst (-1), 1) := by decide +kernel
theorem dX12_letterTold_52 : decode cX12_letterTold 52 = .ok (.ireturn, 1) := by decide +kernel
theorem dX12_readThing_0 : decode cX12_readThing 0 = .ok (.aload_n 0, 1) := by decide +kernel
theorem dX12_readThing_1 : decode cX12_readThing 1 = .ok (.invokevirtual 134, 3) := by decide +kernel
theorem dX12_readThing_4 : decode cX12_readThing 4 = .ok (.istore_n 1, 1) := by decide +kernel
theorem dX12_readThing_5 : decode cX12_readThing 5 = .ok (.iload_n 1, 1) := by decide +kernel
theorem dX12_readThing_6 : decode cX12_readThing 6 = .ok (.ifCond .ge 5, 3) := by decide +kernel
theorem dX12_readThing_9 : decode cX12_readThing 9 = .ok (.iconst 0, 1) := by decide +kernel
theorem dX12_readThing_10 : decode cX12_readThing 10 = .ok (.ireturn, 1) := by decide +kernel
theorem dX12_readThing_11 : decode cX12_readThing 11 = .ok (.aload_n 0, 1) := by decide +kernel
theorem dX12_readThing_12 : decode cX12_readThing 12 = .ok (.ldc 137, 2) := by decide +kernel
theorem dX12_readThing_14 : decode cX12_readThing 14 = .ok (.iconst 0, 1) := by decide +kernel
theorem dX12_readThing_15 : decode cX12_readThing 15 = .ok (.bipush 9, 2) := by decide +kernel
theorem dX12_readThing_17 : decode cX12_readThing 17 = .ok (.invokevirtual 139, 3) := by decide +kernel
theorem dX12_readThing_20 : decode cX12_readThing 20 = .ok (.istore_n 2, 1) := by decide +kernel
theorem dX12_readThing_21 : decode cX12_readThing 21 = .ok (.iload_n 2, 1) := by decide +kernel
theorem dX12_readThing_22 : decode cX12_readThing 22 = .ok (.ifCond .ge 7, 3) := by decide +kernel
theorem dX12_readThing_25 : decode cX12_readThing 25 = .ok (.iconst (-1), 1) := by decide +kernel
theorem dX12_readThing_26 : decode cX12_readThing 26 = .ok (.goto 12, 3) := by decide +kernel
theorem dX12_readThing_29 : decode cX12_readThing 29 = .ok (.aload_n 0, 1) := by decide +kernel
theorem dX12_readThing_30 : decode cX12_readThing 30 = .ok (.ldc 143, 2) := by decide +kernel
theorem dX12_readThing_32 : decode cX12_readThing 32 = .ok (.iconst 0, 1) := by decide +kernel
theorem dX12_readThing_33 : decode cX12_readThing 33 = .ok (.bipush 9, 2) := by decide +kernel
theorem dX12_readThing_35 : decode cX12_readThing 35 = .ok (.invokevirtual 139, 3) := by decide +kernel
theorem dX12_readThing_38 : decode cX12_readThing 38 = .ok (.istore_n 3, 1) := by decide +kernel
theorem dX12_readThing_39 : decode cX12_readThing 39 = .ok (.iload_n 3, 1) := by decide +kernel
theorem dX12_readThing_40 : decode cX12_readThing 40 = .ok (.ifCond .ge 7, 3) := by decide +kernel
theorem dX12_readThing_43 : decode cX12_readThing 43 = .ok (.iconst (-1), 1) := by decide +kernel
theorem dX12_readThing_44 : decode cX12_readThing 44 = .ok (.goto 12, 3) := by decide +kernel
theorem dX12_readThing_47 : decode cX12_readThing 47 = .ok (.aload_n 0, 1) := by decide +kernel
theorem dX12_readThing_48 : decode cX12_readThing 48 = .ok (.ldc 145, 2) := by decide +kernel
theorem dX12_readThing_50 : decode cX12_readThing 50 = .ok (.iconst 0, 1) := by decide +kernel
theorem dX12_readThing_51 : decode cX12_readThing 51 = .ok (.bipush 9, 2) := by decide +kernel
theorem dX12_readThing_53 : decode cX12_readThing 53 = .ok (.invokevirtual 139, 3) := by decide +kernel
theorem dX12_readThing_56 : decode cX12_readThing 56 = .ok (.istore 4, 2) := by decide +kernel
theorem dX12_readThing_58 : decode cX12_readThing 58 = .ok (.iload 4, 2) := by decide +kernel
theorem dX12_readThing_60 : decode cX12_readThing 60 = .ok (.ifCond .ge 7, 3) := by decide +kernel
theorem dX12_readThing_63 : decode cX12_readThing 63 = .ok (.iconst (-1), 1) := by decide +kernel
theorem dX12_readThing_64 : decode cX12_readThing 64 = .ok (.goto 12, 3) := by decide +kernel
theorem dX12_readThing_67 : decode cX12_readThing 67 = .ok (.aload_n 0, 1) := by decide +kernel
theorem dX12_readThing_68 : decode cX12_readThing 68 = .ok (.ldc 147, 2) := by decide +kernel
theorem dX12_readThing_70 : decode cX12_readThing 70 = .ok (.iconst 0, 1) := by decide +kernel
theorem dX12_readThing_71 : decode cX12_readThing 71 = .ok (.bipush 99, 2) := by decide +kernel
theorem dX12_readThing_73 : decode cX12_readThing 73 = .ok (.invokevirtual 139, 3) := by decide +kernel
theorem dX12_readThing_76 : decode cX12_readThing 76 = .ok (.istore 5, 2) := by decide +kernel
theorem dX12_readThing_78 : decode cX12_readThing 78 = .ok (.iload 5, 2) := by decide +kernel
theorem dX12_readThing_80 : decode cX12_readThing 80 = .ok (.ifCond .ge 5, 3) := by decide +kernel
theorem dX12_readThing_83 : decode cX12_readThing 83 = .ok (.iconst 0, 1) := by decide +kernel
theorem dX12_readThing_84 : decode cX12_readThing 84 = .ok (.ireturn, 1) := by decide +kernel
theorem dX12_readThing_85 : decode cX12_readThing 85 = .ok (.aload_n 0, 1) := by decide +kernel
theorem dX12_readThing_86 : decode cX12_readThing 86 = .ok (.getfield 13, 3) := by decide +kernel
theorem dX12_readThing_89 : decode cX12_readThing 89 = .ok (.iload_n 1, 1) := by decide +kernel
theorem dX12_readThing_90 : decode cX12_readThing 90 = .ok (.iconst 0, 1) := by decide +kernel
theorem dX12_readThing_91 : decode cX12_readThing 91 = .ok (.invokestatic 63, 3) := by decide +kernel
theorem dX12_readThing_94 : decode cX12_readThing 94 = .ok (.iload_n 2, 1) := by decide +kernel
theorem dX12_readThing_95 : decode cX12_readThing 95 = .ok (.iastore, 1) := by decide +kernel
theorem dX12_readThing_96 : decode cX12_readThing 96 = .ok (.aload_n 0, 1) := by decide +kernel
theorem dX12_readThing_97 : decode cX12_readThing 97 = .ok (.getfield 13, 3) := by decide +kernel
theorem dX12_readThing_100 : decode cX12_readThing 100 = .ok (.iload_n 1, 1) := by decide +kernel
theorem dX12_readThing_101 : decode cX12_readThing 101 = .ok (.iconst 1, 1) := by decide +kernel
theorem dX12_readThing_102 : decode cX12_readThing 102 = .ok (.invokestatic 63, 3) := by decide +kernel
theorem dX12_readThing_105 : decode cX12_readThing 105 = .ok (.iload_n 3, 1) := by decide +kernel
theorem dX12_readThing_106 : decode cX12_readThing 106 = .ok (.iastore, 1) := by decide +kernel
theorem dX12_readThing_107 : decode cX12_readThing 107 = .ok (.aload_n 0, 1) := by decide +kernel
theorem dX12_readThing_108 : decode cX12_readThing 108 = .ok (.getfield 13, 3) := by decide +kernel
theorem dX12_readThing_111 : decode cX12_readThing 111 = .ok (.iload_n 1, 1) := by decide +kernel
theorem dX12_readThing_112 : decode cX12_readThing 112 = .ok (.iconst 2, 1) := by decide +kernel
theorem dX12_readThing_113 : decode cX12_readThing 113 = .ok (.invokestatic 63, 3) := by decide +kernel
theorem dX12_readThing_116 : decode cX12_readThing 116 = .ok (.iload 4, 2) := by decide +kernel
theorem dX12_readThing_118 : decode cX12_readThing 118 = .ok (.iastore, 1) := by decide +kernel
theorem dX12_readThing_119 : decode cX12_readThing 119 = .ok (.aload_n 0, 1) := by decide +kernel
theorem dX12_readThing_120 : decode cX12_readThing 120 = .ok (.getfield 13, 3) := by decide +kernel
theorem dX12_readThing_123 : decode cX12_readThing 123 = .ok (.iload_n 1, 1) := by decide +kernel
theorem dX12_readThing_124 : decode cX12_readThing 124 = .ok (.iconst 3, 1) := by decide +kernel
theorem dX12_readThing_125 : decode cX12_readThing 125 = .ok (.invokestatic 63, 3) := by decide +kernel
theorem dX12_readThing_128 : decode cX12_readThing 128 = .ok (.iload 5, 2) := by decide +kernel
theorem dX12_readThing_130 : decode cX12_readThing 130 = .ok (.iastore, 1) := by decide +kernel
theorem dX12_readThing_131 : decode cX12_readThing 131 = .ok (.iconst 1, 1) := by decide +kernel
theorem dX12_readThing_132 : decode cX12_readThing 132 = .ok (.ireturn, 1) := by decide +kernel
theorem dX12_isBorn_0 : decode cX12_isBorn 0 = .ok (.aload_n 0, 1) := by decide +kernel
theorem dX12_isBorn_1 : decode cX12_isBorn 1 = .ok (.invokevirtual 83, 3) := by decide +kernel
theorem dX12_isBorn_4 : decode cX12_isBorn 4 = .ok (.istore_n 2, 1) := by decide +kernel
theorem dX12_isBorn_5 : decode cX12_isBorn 5 = .ok (.aload_n 0, 1) := by decide +kernel
theorem dX12_isBorn_6 : decode cX12_isBorn 6 = .ok (.getfield 13, 3) := by decide +kernel
theorem dX12_isBorn_9 : decode cX12_isBorn 9 = .ok (.iload_n 2, 1) := by decide +kernel
theorem dX12_isBorn_10 : decode cX12_isBorn 10 = .ok (.iconst 0, 1) := by decide +kernel
theorem dX12_isBorn_11 : decode cX12_isBorn 11 = .ok (.invokestatic 74, 3) := by decide +kernel
theorem dX12_isBorn_14 : decode cX12_isBorn 14 = .ok (.iconst 0, 1) := by decide +kernel
theorem dX12_isBorn_15 : decode cX12_isBorn 15 = .ok (.iastore, 1) := by decide +kernel
theorem dX12_isBorn_16 : decode cX12_isBorn 16 = .ok (.aload_n 0, 1) := by decide +kernel
theorem dX12_isBorn_17 : decode cX12_isBorn 17 = .ok (.getfield 13, 3) := by decide +kernel
theorem dX12_isBorn_20 : decode cX12_isBorn 20 = .ok (.iload_n 2, 1) := by decide +kernel
theorem dX12_isBorn_21 : decode cX12_isBorn 21 = .ok (.iconst 1, 1) := by decide +kernel
theorem dX12_isBorn_22 : decode cX12_isBorn 22 = .ok (.invokestatic 74, 3) := by decide +kernel
theorem dX12_isBorn_25 : decode cX12_isBorn 25 = .ok (.iload_n 1, 1) := by decide +kernel
theorem dX12_isBorn_26 : decode cX12_isBorn 26 = .ok (.iastore, 1) := by decide +kernel
theorem dX12_isBorn_27 : decode cX12_isBorn 27 = .ok (.aload_n 0, 1) := by decide +kernel
theorem dX12_isBorn_28 : decode cX12_isBorn 28 = .ok (.getfield 13, 3) := by decide +kernel
theorem dX12_isBorn_31 : decode cX12_isBorn 31 = .ok (.iload_n 2, 1) := by decide +kernel
theorem dX12_isBorn_32 : decode cX12_isBorn 32 = .ok (.iconst 2, 1) := by decide +kernel
theorem dX12_isBorn_33 : decode cX12_isBorn 33 = .ok (.invokestatic 74, 3) := by decide +kernel
theorem dX12_isBorn_36 : decode cX12_isBorn 36 = .ok (.bipush 31, 2) := by decide +kernel
theorem dX12_isBorn_38 : decode cX12_isBorn 38 = .ok (.iastore, 1) := by decide +kernel
theorem dX12_isBorn_39 : decode cX12_isBorn 39 = .ok (.aload_n 0, 1) := by decide +kernel
theorem dX12_isBorn_40 : decode cX12_isBorn 40 = .ok (.getfield 13, 3) := by decide +kernel
theorem dX12_isBorn_43 : decode cX12_isBorn 43 = .ok (.iload_n 2, 1) := by decide +kernel
theorem dX12_isBorn_44 : decode cX12_isBorn 44 = .ok (.iconst 3, 1) := by decide +kernel
theorem dX12_isBorn_45 : decode cX12_isBorn 45 = .ok (.invokestatic 74, 3) := by decide +kernel
theorem dX12_isBorn_48 : decode cX12_isBorn 48 = .ok (.iconst 5, 1) := by decide +kernel
theorem dX12_isBorn_49 : decode cX12_isBorn 49 = .ok (.iastore, 1) := by decide +kernel
theorem dX12_isBorn_50 : decode cX12_isBorn 50 = .ok (.aload_n 0, 1) := by decide +kernel
theorem dX12_isBorn_51 : decode cX12_isBorn 51 = .ok (.getfield 13, 3) := by decide +kernel
theorem dX12_isBorn_54 : decode cX12_isBorn 54 = .ok (.iload_n 2, 1) := by decide +kernel
theorem dX12_isBorn_55 : decode cX12_isBorn 55 = .ok (.iconst 4, 1) := by decide +kernel
theorem dX12_isBorn_56 : decode cX12_isBorn 56 = .ok (.invokestatic 74, 3) := by decide +kernel
theorem dX12_isBorn_59 : decode cX12_isBorn 59 = .ok (.iconst (-1), 1) := by decide +kernel
theorem dX12_isBorn_60 : decode cX12_isBorn 60 = .ok (.iastore, 1) := by decide +kernel
theorem dX12_isBorn_61 : decode cX12_isBorn 61 = .ok (.aload_n 0, 1) := by decide +kernel
theorem dX12_isBorn_62 : decode cX12_isBorn 62 = .ok (.getfield 13, 3) := by decide +kernel
theorem dX12_isBorn_65 : decode cX12_isBorn 65 = .ok (.iload_n 2, 1) := by decide +kernel
theorem dX12_isBorn_66 : decode cX12_isBorn 66 = .ok (.iconst 5, 1) := by decide +kernel
theorem dX12_isBorn_67 : decode cX12_isBorn 67 = .ok (.invokestatic 74, 3) := by decide +kernel
theorem dX12_isBorn_70 : decode cX12_isBorn 70 = .ok (.iconst (-1), 1) := by decide +kernel
theorem dX12_isBorn_71 : decode cX12_isBorn 71 = .ok (.iastore, 1) := by decide +kernel
theorem dX12_isBorn_72 : decode cX12_isBorn 72 = .ok (.aload_n 0, 1) := by decide +kernel
theorem dX12_isBorn_73 : decode cX12_isBorn 73 = .ok (.getfield 13, 3) := by decide +kernel
theorem dX12_isBorn_76 : decode cX12_isBorn 76 = .ok (.iload_n 2, 1) := by decide +kernel
theorem dX12_isBorn_77 : decode cX12_isBorn 77 = .ok (.bipush 6, 2) := by decide +kernel
theorem dX12_isBorn_79 : decode cX12_isBorn 79 = .ok (.invokestatic 74, 3) := by decide +kernel
theorem dX12_isBorn_82 : decode cX12_isBorn 82 = .ok (.iconst 0, 1) := by decide +kernel
theorem dX12_isBorn_83 : decode cX12_isBorn 83 = .ok (.iastore, 1) := by decide +kernel
theorem dX12_isBorn_84 : decode cX12_isBorn 84 = .ok (.aload_n 0, 1) := by decide +kernel
theorem dX12_isBorn_85 : decode cX12_isBorn 85 = .ok (.getfield 13, 3) := by decide +kernel
theorem dX12_isBorn_88 : decode cX12_isBorn 88 = .ok (.iload_n 2, 1) := by decide +kernel
theorem dX12_isBorn_89 : decode cX12_isBorn 89 = .ok (.bipush 7, 2) := by decide +kernel
theorem dX12_isBorn_91 : decode cX12_isBorn 91 = .ok (.invokestatic 74, 3) := by decide +kernel
theorem dX12_isBorn_94 : decode cX12_isBorn 94 = .ok (.iconst 0, 1) := by decide +kernel
theorem dX12_isBorn_95 : decode cX12_isBorn 95 = .ok (.iastore, 1) := by decide +kernel
theorem dX12_isBorn_96 : decode cX12_isBorn 96 = .ok (.aload_n 0, 1) := by decide +kernel
theorem dX12_isBorn_97 : decode cX12_isBorn 97 = .ok (.getfield 13, 3) := by decide +kernel
theorem dX12_isBorn_100 : decode cX12_isBorn 100 = .ok (.iload_n 2, 1) := by decide +kernel
theorem dX12_isBorn_101 : decode cX12_isBorn 101 = .ok (.bipush 8, 2) := by decide +kernel
theorem dX12_isBorn_103 : decode cX12_isBorn 103 = .ok (.invokestatic 74, 3) := by decide +kernel
theorem dX12_isBorn_106 : decode cX12_isBorn 106 = .ok (.iconst (-1), 1) := by decide +kernel
theorem dX12_isBorn_107 : decode cX12_isBorn 107 = .ok (.iastore, 1) := by decide +kernel
theorem dX12_isBorn_108 : decode cX12_isBorn 108 = .ok (.aload_n 0, 1) := by decide +kernel
theorem dX12_isBorn_109 : decode cX12_isBorn 109 = .ok (.getfield 13, 3) := by decide +kernel
theorem dX12_isBorn_112 : decode cX12_isBorn 112 = .ok (.iconst 0, 1) := by decide +kernel
theorem dX12_isBorn_113 : decode cX12_isBorn 113 = .ok (.dup2, 1) := by decide +kernel
theorem dX12_isBorn_114 : decode cX12_isBorn 114 = .ok (.iaload, 1) := by decide +kernel
theorem dX12_isBorn_115 : decode cX12_isBorn 115 = .ok (.iconst 1, 1) := by decide +kernel
theorem dX12_isBorn_116 : decode cX12_isBorn 116 = .ok (.iadd, 1) := by decide +kernel
theorem dX12_isBorn_117 : decode cX12_isBorn 117 = .ok (.iastore, 1) := by decide +kernel
theorem dX12_isBorn_118 : decode cX12_isBorn 118 = .ok (.return_, 1) := by decide +kernel
theorem dX12_readChild_0 : decode cX12_readChild 0 = .ok (.aload_n 0, 1) := by decide +kernel
theorem dX12_readChild_1 : decode cX12_readChild 1 = .ok (.invokevirtual 83, 3) := by decide +kernel
theorem dX12_readChild_4 : decode cX12_readChild 4 = .ok (.istore_n 1, 1) := by decide +kernel
theorem dX12_readChild_5 : decode cX12_readChild 5 = .ok (.iload_n 1, 1) := by decide +kernel
theorem dX12_readChild_6 : decode cX12_readChild 6 = .ok (.bipush 8, 2) := by decide +kernel
theorem dX12_readChild_8 : decode cX12_readChild 8 = .ok (.if_icmp .ne 5, 3) := by decide +kernel
theorem dX12_readChild_11 : decode cX12_readChild 11 = .ok (.iconst 0, 1) := by decide +kernel
theorem dX12_readChild_12 : decode cX12_readChild 12 = .ok (.ireturn, 1) := by decide +kernel
theorem dX12_readChild_13 : decode cX12_readChild 13 = .ok (.aload_n 0, 1) := by decide +kernel
theorem dX12_readChild_14 : decode cX12_readChild 14 = .ok (.invokevirtual 134, 3) := by decide +kernel
theorem dX12_readChild_17 : decode cX12_readChild 17 = .ok (.istore_n 2, 1) := by decide +kernel
theorem dX12_readChild_18 : decode cX12_readChild 18 = .ok (.iload_n 2, 1) := by decide +kernel
theorem dX12_readChild_19 : decode cX12_readChild 19 = .ok (.ifCond .ge 15, 3) := by decide +kernel
theorem dX12_readChild_22 : decode cX12_readChild 22 = .ok (.aload_n 0, 1) := by decide +kernel
theorem dX12_readChild_23 : decode cX12_readChild 23 = .ok (.ldc 149, 2) := by decide +kernel
theorem dX12_readChild_25 : decode cX12_readChild 25 = .ok (.invokevirtual 123, 3) := by decide +kernel
theorem dX12_readChild_28 : decode cX12_readChild 28 = .ok (.ifCond .eq 6, 3) := by decide +kernel
theorem dX12_readChild_31 : decode cX12_readChild 31 = .ok (.bipush 8, 2) := by decide +kernel
theorem dX12_readChild_33 : decode cX12_readChild 33 = .ok (.istore_n 2, 1) := by decide +kernel
theorem dX12_readChild_34 : decode cX12_readChild 34 = .ok (.iload_n 2, 1) := by decide +kernel
theorem dX12_readChild_35 : decode cX12_readChild 35 = .ok (.ifCond .ge 5, 3) := by decide +kernel
theorem dX12_readChild_38 : decode cX12_readChild 38 = .ok (.iconst 0, 1) := by decide +kernel
theorem dX12_readChild_39 : decode cX12_readChild 39 = .ok (.ireturn, 1) := by decide +kernel
theorem dX12_readChild_40 : decode cX12_readChild 40 = .ok (.aload_n 0, 1) := by decide +kernel
theorem dX12_readChild_41 : decode cX12_readChild 41 = .ok (.ldc 151, 2) := by decide +kernel
theorem dX12_readChild_43 : decode cX12_readChild 43 = .ok (.iconst 0, 1) := by decide +kernel
theorem dX12_readChild_44 : decode cX12_readChild 44 = .ok (.sipush 999, 3) := by decide +kernel
theorem dX12_readChild_47 : decode cX12_readChild 47 = .ok (.iconst 0, 1) := by decide +kernel
theorem dX12_readChild_48 : decode cX12_readChild 48 = .ok (.invokevirtual 153, 3) := by decide +kernel
theorem dX12_readChild_51 : decode cX12_readChild 51 = .ok (.istore_n 3, 1) := by decide +kernel
theorem dX12_readChild_52 : decode cX12_readChild 52 = .ok (.iload_n 3, 1) := by decide +kernel
theorem dX12_readChild_53 : decode cX12_readChild 53 = .ok (.ldc 133, 2) := by decide +kernel
theorem dX12_readChild_55 : decode cX12_readChild 55 = .ok (.if_icmp .ne 8, 3) := by decide +kernel
theorem dX12_readChild_58 : decode cX12_readChild 58 = .ok (.ldc 133, 2) := by decide +kernel
theorem dX12_readChild_60 : decode cX12_readChild 60 = .ok (.goto 13, 3) := by decide +kernel
theorem dX12_readChild_63 : decode cX12_readChild 63 = .ok (.aload_n 0, 1) := by decide +kernel
theorem dX12_readChild_64 : decode cX12_readChild 64 = .ok (.ldc 157, 2) := by decide +kernel
theorem dX12_readChild_66 : decode cX12_readChild 66 = .ok (.iconst 0, 1) := by decide +kernel
theorem dX12_readChild_67 : decode cX12_readChild 67 = .ok (.bipush 9, 2) := by decide +kernel
theorem dX12_readChild_69 : decode cX12_readChild 69 = .ok (.iconst 5, 1) := by decide +kernel
theorem dX12_readChild_70 : decode cX12_readChild 70 = .ok (.invokevirtual 153, 3) := by decide +kernel
theorem dX12_readChild_73 : decode cX12_readChild 73 = .ok (.istore 4, 2) := by decide +kernel
theorem dX12_readChild_75 : decode cX12_readChild 75 = .ok (.iload 4, 2) := by decide +kernel
theorem dX12_readChild_77 : decode cX12_readChild 77 = .ok (.ldc 133, 2) := by decide +kernel
theorem dX12_readChild_79 : decode cX12_readChild 79 = .ok (.if_icmp .ne 5, 3) := by decide +kernel
theorem dX12_readChild_82 : decode cX12_readChild 82 = .ok (.iconst 0, 1) := by decide +kernel
theorem dX12_readChild_83 : decode cX12_readChild 83 = .ok (.ireturn, 1) := by decide +kernel
theorem dX12_readChild_84 : decode cX12_readChild 84 = .ok (.aload_n 0, 1) := by decide +kernel
theorem dX12_readChild_85 : decode cX12_readChild 85 = .ok (.ldc 159, 2) := by decide +kernel
theorem dX12_readChild_87 : decode cX12_readChild 87 = .ok (.invokevirtual 130, 3) := by decide +kernel
theorem dX12_readChild_90 : decode cX12_readChild 90 = .ok (.istore 5, 2) := by decide +kernel
theorem dX12_readChild_92 : decode cX12_readChild 92 = .ok (.iload 5, 2) := by decide +kernel
theorem dX12_readChild_94 : decode cX12_readChild 94 = .ok (.ifCond .eq 10, 3) := by decide +kernel
theorem dX12_readChild_97 : decode cX12_readChild 97 = .ok (.aload_n 0, 1) := by decide +kernel
theorem dX12_readChild_98 : decode cX12_readChild 98 = .ok (.invokevirtual 134, 3) := by decide +kernel
theorem dX12_readChild_101 : decode cX12_readChild 101 = .ok (.goto 4, 3) := by decide +kernel
theorem dX12_readChild_104 : decode cX12_readChild 104 = .ok (.iconst (-1), 1) := by decide +kernel
theorem dX12_readChild_105 : decode cX12_readChild 105 = .ok (.istore 6, 2) := by decide +kernel
theorem dX12_readChild_107 : decode cX12_readChild 107 = .ok (.iload 5, 2) := by decide +kernel
theorem dX12_readChild_109 : decode cX12_readChild 109 = .ok (.ifCond .eq 10, 3) := by decide +kernel
theorem dX12_readChild_112 : decode cX12_readChild 112 = .ok (.iload 6, 2) := by decide +kernel
theorem dX12_readChild_114 : decode cX12_readChild 114 = .ok (.ifCond .ge 5, 3) := by decide +kernel
theorem dX12_readChild_117 : decode cX12_readChild 117 = .ok (.iconst 0, 1) := by decide +kernel
theorem dX12_readChild_118 : decode cX12_readChild 118 = .ok (.ireturn, 1) := by decide +kernel
theorem dX12_readChild_119 : decode cX12_readChild 119 = .ok (.aload_n 0, 1) := by decide +kernel
theorem dX12_readChild_120 : decode cX12_readChild 120 = .ok (.iload_n 2, 1) := by decide +kernel
theorem dX12_readChild_121 : decode cX12_readChild 121 = .ok (.invokevirtual 161, 3) := by decide +kernel
theorem dX12_readChild_124 : decode cX12_readChild 124 = .ok (.aload_n 0, 1) := by decide +kernel
theorem dX12_readChild_125 : decode cX12_readChild 125 = .ok (.getfield 13, 3) := by decide +kernel
theorem dX12_readChild_128 : decode cX12_readChild 128 = .ok (.iload_n 1, 1) := by decide +kernel
theorem dX12_readChild_129 : decode cX12_readChild 129 = .ok (.iconst 0, 1) := by decide +kernel
theorem dX12_readChild_130 : decode cX12_readChild 130 = .ok (.invokestatic 74, 3) := by decide +kernel
theorem dX12_readChild_133 : decode cX12_readChild 133 = .ok (.iload_n 3, 1) := by decide +kernel
theorem dX12_readChild_134 : decode cX12_readChild 134 = .ok (.iastore, 1) := by decide +kernel
theorem dX12_readChild_135 : decode cX12_readChild 135 = .ok (.aload_n 0, 1) := by decide +kernel
theorem dX12_readChild_136 : decode cX12_readChild 136 = .ok (.getfield 13, 3) := by decide +kernel
theorem dX12_readChild_139 : decode cX12_readChild 139 = .ok (.iload_n 1, 1) := by decide +kernel
theorem dX12_readChild_140 : decode cX12_readChild 140 = .ok (.iconst 3, 1) := by decide +kernel
theorem dX12_readChild_141 : decode cX12_readChild 141 = .ok (.invokestatic 74, 3) := by decide +kernel
theorem dX12_readChild_144 : decode cX12_readChild 144 = .ok (.iload 4, 2) := by decide +kernel
theorem dX12_readChild_146 : decode cX12_readChild 146 = .ok (.iastore, 1) := by decide +kernel
theorem dX12_readChild_147 : decode cX12_readChild 147 = .ok (.aload_n 0, 1) := by decide +kernel
theorem dX12_readChild_148 : decode cX12_readChild 148 = .ok (.getfield 13, 3) := by decide +kernel
theorem dX12_readChild_151 : decode cX12_readChild 151 = .ok (.iload_n 1, 1) := by decide +kernel
theorem dX12_readChild_152 : decode cX12_readChild 152 = .ok (.iconst 4, 1) := by decide +kernel
theorem dX12_readChild_153 : decode cX12_readChild 153 = .ok (.invokestatic 74, 3) := by decide +kernel
theorem dX12_readChild_156 : decode cX12_readChild 156 = .ok (.iload 6, 2) := by decide +kernel
theorem dX12_readChild_158 : decode cX12_readChild 158 = .ok (.iastore, 1) := by decide +kernel
theorem dX12_readChild_159 : decode cX12_readChild 159 = .ok (.iconst 1, 1) := by decide +kernel
theorem dX12_readChild_160 : decode cX12_readChild 160 = .ok (.ireturn, 1) := by decide +kernel
theorem dX12_mayKnot_0 : decode cX12_mayKnot 0 = .ok (.aload_n 0, 1) := by decide +kernel
theorem dX12_mayKnot_1 : decode cX12_mayKnot 1 = .ok (.iload_n 1, 1) := by decide +kernel
theorem dX12_mayKnot_2 : decode cX12_mayKnot 2 = .ok (.invokevirtual 165, 3) := by decide +kernel
theorem dX12_mayKnot_5 : decode cX12_mayKnot 5 = .ok (.ifCond .ne 18, 3) := by decide +kernel
theorem dX12_mayKnot_8 : decode cX12_mayKnot 8 = .ok (.aload_n 0, 1) := by decide +kernel
theorem dX12_mayKnot_9 : decode cX12_mayKnot 9 = .ok (.iload_n 1, 1) := by decide +kernel
theorem dX12_mayKnot_10 : decode cX12_mayKnot 10 = .ok (.iconst 2, 1) := by decide +kernel
theorem dX12_mayKnot_11 : decode cX12_mayKnot 11 = .ok (.invokevirtual 77, 3) := by decide +kernel
theorem dX12_mayKnot_14 : decode cX12_mayKnot 14 = .ok (.bipush 31, 2) := by decide +kernel
theorem dX12_mayKnot_16 : decode cX12_mayKnot 16 = .ok (.if_icmp .ne 7, 3) := by decide +kernel
theorem dX12_mayKnot_19 : decode cX12_mayKnot 19 = .ok (.iconst 1, 1) := by decide +kernel
theorem dX12_mayKnot_20 : decode cX12_mayKnot 20 = .ok (.goto 4, 3) := by decide +kernel
theorem dX12_mayKnot_23 : decode cX12_mayKnot 23 = .ok (.iconst 0, 1) := by decide +kernel
theorem dX12_mayKnot_24 : decode cX12_mayKnot 24 = .ok (.ireturn, 1) := by decide +kernel
theorem dX12_readKnot_0 : decode cX12_readKnot 0 = .ok (.aload_n 0, 1) := by decide +kernel
theorem dX12_readKnot_1 : decode cX12_readKnot 1 = .ok (.iconst 0, 1) := by decide +kernel
theorem dX12_readKnot_2 : decode cX12_readKnot 2 = .ok (.aload_n 0, 1) := by decide +kernel
theorem dX12_readKnot_3 : decode cX12_readKnot 3 = .ok (.invokevirtual 83, 3) := by decide +kernel
theorem dX12_readKnot_6 : decode cX12_readKnot 6 = .ok (.iconst 1, 1) := by decide +kernel
theorem dX12_readKnot_7 : decode cX12_readKnot 7 = .ok (.isub, 1) := by decide +kernel
theorem dX12_readKnot_8 : decode cX12_readKnot 8 = .ok (.invokevirtual 127, 3) := by decide +kernel
theorem dX12_readKnot_11 : decode cX12_readKnot 11 = .ok (.istore_n 1, 1) := by decide +kernel
theorem dX12_readKnot_12 : decode cX12_readKnot 12 = .ok (.iload_n 1, 1) := by decide +kernel
theorem dX12_readKnot_13 : decode cX12_readKnot 13 = .ok (.ifCond .ge 7, 3) := by decide +kernel
theorem dX12_readKnot_16 : decode cX12_readKnot 16 = .ok (.iconst (-1), 1) := by decide +kernel
theorem dX12_readKnot_17 : decode cX12_readKnot 17 = .ok (.goto 14, 3) := by decide +kernel
theorem dX12_readKnot_20 : decode cX12_readKnot 20 = .ok (.aload_n 0, 1) := by decide +kernel
theorem dX12_readKnot_21 : decode cX12_readKnot 21 = .ok (.iconst 0, 1) := by decide +kernel
theorem dX12_readKnot_22 : decode cX12_readKnot 22 = .ok (.aload_n 0, 1) := by decide +kernel
theorem dX12_readKnot_23 : decode cX12_readKnot 23 = .ok (.invokevirtual 83, 3) := by decide +kernel
theorem dX12_readKnot_26 : decode cX12_readKnot 26 = .ok (.iconst 1, 1) := by decide +kernel
theorem dX12_readKnot_27 : decode cX12_readKnot 27 = .ok (.isub, 1) := by decide +kernel
theorem dX12_readKnot_28 : decode cX12_readKnot 28 = .ok (.invokevirtual 127, 3) := by decide +kernel
theorem dX12_readKnot_31 : decode cX12_readKnot 31 = .ok (.istore_n 2, 1) := by decide +kernel
theorem dX12_readKnot_32 : decode cX12_readKnot 32 = .ok (.iload_n 2, 1) := by decide +kernel
theorem dX12_readKnot_33 : decode cX12_readKnot 33 = .ok (.ifCond .lt 24, 3) := by decide +kernel
theorem dX12_readKnot_36 : decode cX12_readKnot 36 = .ok (.iload_n 1, 1) := by decide +kernel
theorem dX12_readKnot_37 : decode cX12_readKnot 37 = .ok (.iload_n 2, 1) := by decide +kernel
theorem dX12_readKnot_38 : decode cX12_readKnot 38 = .ok (.if_icmp .eq 19, 3) := by decide +kernel
theorem dX12_readKnot_41 : decode cX12_readKnot 41 = .ok (.aload_n 0, 1) := by decide +kernel
theorem dX12_readKnot_42 : decode cX12_readKnot 42 = .ok (.iload_n 1, 1) := by decide +kernel
theorem dX12_readKnot_43 : decode cX12_readKnot 43 = .ok (.invokevirtual 169, 3) := by decide +kernel
theorem dX12_readKnot_46 : decode cX12_readKnot 46 = .ok (.ifCond .eq 11, 3) := by decide +kernel
theorem dX12_readKnot_49 : decode cX12_readKnot 49 = .ok (.aload_n 0, 1) := by decide +kernel
theorem dX12_readKnot_50 : decode cX12_readKnot 50 = .ok (.iload_n 2, 1) := by decide +kernel
theorem dX12_readKnot_51 : decode cX12_readKnot 51 = .ok (.invokevirtual 169, 3) := by decide +kernel
theorem dX12_readKnot_54 : decode cX12_readKnot 54 = .ok (.ifCond .ne 5, 3) := by decide +kernel
theorem dX12_readKnot_57 : decode cX12_readKnot 57 = .ok (.iconst 0, 1) := by decide +kernel
theorem dX12_readKnot_58 : decode cX12_readKnot 58 = .ok (.ireturn, 1) := by decide +kernel
theorem dX12_readKnot_59 : decode cX12_readKnot 59 = .ok (.aload_n 0, 1) := by decide +kernel
theorem dX12_readKnot_60 : decode cX12_readKnot 60 = .ok (.getfield 13, 3) := by decide +kernel
theorem dX12_readKnot_63 : decode cX12_readKnot 63 = .ok (.iload_n 1, 1) := by decide +kernel
theorem dX12_readKnot_64 : decode cX12_readKnot 64 = .ok (.bipush 8, 2) := by decide +kernel
theorem dX12_readKnot_66 : decode cX12_readKnot 66 = .ok (.invokestatic 74, 3) := by decide +kernel
theorem dX12_readKnot_69 : decode cX12_readKnot 69 = .ok (.iload_n 2, 1) := by decide +kernel
theorem dX12_readKnot_70 : decode cX12_readKnot 70 = .ok (.iastore, 1) := by decide +kernel
theorem dX12_readKnot_71 : decode cX12_readKnot 71 = .ok (.aload_n 0, 1) := by decide +kernel
theorem dX12_readKnot_72 : decode cX12_readKnot 72 = .ok (.getfield 13, 3) := by decide +kernel
theorem dX12_readKnot_75 : decode cX12_readKnot 75 = .ok (.iload_n 2, 1) := by decide +kernel
theorem dX12_readKnot_76 : decode cX12_readKnot 76 = .ok (.bipush 8, 2) := by decide +kernel
theorem dX12_readKnot_78 : decode cX12_readKnot 78 = .ok (.invokestatic 74, 3) := by decide +kernel
theorem dX12_readKnot_81 : decode cX12_readKnot 81 = .ok (.iload_n 1, 1) := by decide +kernel
theorem dX12_readKnot_82 : decode cX12_readKnot 82 = .ok (.iastore, 1) := by decide +kernel
theorem dX12_readKnot_83 : decode cX12_readKnot 83 = .ok (.iconst 1, 1) := by decide +kernel
theorem dX12_readKnot_84 : decode cX12_readKnot 84 = .ok (.ireturn, 1) := by decide +kernel
theorem dX12_readParishLine_0 : decode cX12_readParishLine 0 = .ok (.aload_n 0, 1) := by decide +kernel
theorem dX12_readParishLine_1 : decode cX12_readParishLine 1 = .ok (.ldc 172, 2) := by decide +kernel
theorem dX12_readParishLine_3 : decode cX12_readParishLine 3 = .ok (.invokevirtual 123, 3) := by decide +kernel
theorem dX12_readParishLine_6 : decode cX12_readParishLine 6 = .ok (.ifCond .eq 8, 3) := by decide +kernel
theorem dX12_readParishLine_9 : decode cX12_readParishLine 9 = .ok (.aload_n 0, 1) := by decide +kernel
theorem dX12_readParishLine_10 : decode cX12_readParishLine 10 = .ok (.invokevirtual 174, 3) := by decide +kernel
theorem dX12_readParishLine_13 : decode cX12_readParishLine 13 = .ok (.ireturn, 1) := by decide +kernel
theorem dX12_readParishLine_14 : decode cX12_readParishLine 14 = .ok (.aload_n 0, 1) := by decide +kernel
theorem dX12_readParishLine_15 : decode cX12_readParishLine 15 = .ok (.ldc 178, 2) := by decide +kernel
theorem dX12_readParishLine_17 : decode cX12_readParishLine 17 = .ok (.invokevirtual 123, 3) := by decide +kernel
theorem dX12_readParishLine_20 : decode cX12_readParishLine 20 = .ok (.ifCond .eq 8, 3) := by decide +kernel
theorem dX12_readParishLine_23 : decode cX12_readParishLine 23 = .ok (.aload_n 0, 1) := by decide +kernel
theorem dX12_readParishLine_24 : decode cX12_readParishLine 24 = .ok (.invokevirtual 180, 3) := by decide +kernel
theorem dX12_readParishLine_27 : decode cX12_readParishLine 27 = .ok (.ireturn, 1) := by decide +kernel
theorem dX12_readParishLine_28 : decode cX12_readParishLine 28 = .ok (.aload_n 0, 1) := by decide +kernel
theorem dX12_readParishLine_29 : decode cX12_readParishLine 29 = .ok (.ldc 183, 2) := by decide +kernel
theorem dX12_readParishLine_31 : decode cX12_readParishLine 31 = .ok (.invokevirtual 123, 3) := by decide +kernel
theorem dX12_readParishLine_34 : decode cX12_readParishLine 34 = .ok (.ifCond .eq 8, 3) := by decide +kernel
theorem dX12_readParishLine_37 : decode cX12_readParishLine 37 = .ok (.aload_n 0, 1) := by decide +kernel
theorem dX12_readParishLine_38 : decode cX12_readParishLine 38 = .ok (.invokevirtual 185, 3) := by decide +kernel
theorem dX12_readParishLine_41 : decode cX12_readParishLine 41 = .ok (.ireturn, 1) := by decide +kernel
theorem dX12_readParishLine_42 : decode cX12_readParishLine 42 = .ok (.aload_n 0, 1) := by decide +kernel
theorem dX12_readParishLine_43 : decode cX12_readParishLine 43 = .ok (.ldc 188, 2) := by decide +kernel
theorem dX12_readParishLine_45 : decode cX12_readParishLine 45 = .ok (.invokevirtual 123, 3) := by decide +kernel
theorem dX12_readParishLine_48 : decode cX12_readParishLine 48 = .ok (.ifCond .eq 12, 3) := by decide +kernel
theorem dX12_readParishLine_51 : decode cX12_readParishLine 51 = .ok (.aload_n 0, 1) := by decide +kernel
theorem dX12_readParishLine_52 : decode cX12_readParishLine 52 = .ok (.iconst 4, 1) := by decide +kernel
theorem dX12_readParishLine_53 : decode cX12_readParishLine 53 = .ok (.iconst 0, 1) := by decide +kernel
theorem dX12_readParishLine_54 : decode cX12_readParishLine 54 = .ok (.bipush 9, 2) := by decide +kernel
theorem dX12_readParishLine_56 : decode cX12_readParishLine 56 = .ok (.invokevirtual 190, 3) := by decide +kernel
theorem dX12_readParishLine_59 : decode cX12_readParishLine 59 = .ok (.ireturn, 1) := by decide +kernel
theorem dX12_readParishLine_60 : decode cX12_readParishLine 60 = .ok (.aload_n 0, 1) := by decide +kernel
theorem dX12_readParishLine_61 : decode cX12_readParishLine 61 = .ok (.ldc 193, 2) := by decide +kernel
theorem dX12_readParishLine_63 : decode cX12_readParishLine 63 = .ok (.invokevirtual 123, 3) := by decide +kernel
theorem dX12_readParishLine_66 : decode cX12_readParishLine 66 = .ok (.ifCond .eq 19, 3) := by decide +kernel
theorem dX12_readParishLine_69 : decode cX12_readParishLine 69 = .ok (.aload_n 0, 1) := by decide +kernel
theorem dX12_readParishLine_70 : decode cX12_readParishLine 70 = .ok (.iconst 3, 1) := by decide +kernel
theorem dX12_readParishLine_71 : decode cX12_readParishLine 71 = .ok (.iconst 0, 1) := by decide +kernel
theorem dX12_readParishLine_72 : decode cX12_readParishLine 72 = .ok (.sipush 999, 3) := by decide +kernel
theorem dX12_readParishLine_75 : decode cX12_readParishLine 75 = .ok (.invokevirtual 190, 3) := by decide +kernel
theorem dX12_readParishLine_78 : decode cX12_readParishLine 78 = .ok (.ifCond .eq 7, 3) := by decide +kernel
theorem dX12_readParishLine_81 : decode cX12_readParishLine 81 = .ok (.iconst 1, 1) := by decide +kernel
theorem dX12_readParishLine_82 : decode cX12_readParishLine 82 = .ok (.goto 4, 3) := by decide +kernel
theorem dX12_readParishLine_85 : decode cX12_readParishLine 85 = .ok (.iconst 0, 1) := by decide +kernel
theorem dX12_readParishLine_86 : decode cX12_readParishLine 86 = .ok (.ireturn, 1) := by decide +kernel
theorem dX12_emits_0 : decode cX12_emits 0 = .ok (.aload_n 0, 1) := by decide +kernel
theorem dX12_emits_1 : decode cX12_emits 1 = .ok (.getfield 13, 3) := by decide +kernel
theorem dX12_emits_4 : decode cX12_emits 4 = .ok (.sipush 1313, 3) := by decide +kernel
theorem dX12_emits_7 : decode cX12_emits 7 = .ok (.iconst 2, 1) := by decide +kernel
theorem dX12_emits_8 : decode cX12_emits 8 = .ok (.aload_n 0, 1) := by decide +kernel
theorem dX12_emits_9 : decode cX12_emits 9 = .ok (.getfield 195, 3) := by decide +kernel
theorem dX12_emits_12 : decode cX12_emits 12 = .ok (.imul, 1) := by decide +kernel
theorem dX12_emits_13 : decode cX12_emits 13 = .ok (.iadd, 1) := by decide +kernel
theorem dX12_emits_14 : decode cX12_emits 14 = .ok (.iload_n 1, 1) := by decide +kernel
theorem dX12_emits_15 : decode cX12_emits 15 = .ok (.iastore, 1) := by decide +kernel
theorem dX12_emits_16 : decode cX12_emits 16 = .ok (.aload_n 0, 1) := by decide +kernel
theorem dX12_emits_17 : decode cX12_emits 17 = .ok (.getfield 13, 3) := by decide +kernel
theorem dX12_emits_20 : decode cX12_emits 20 = .ok (.sipush 1313, 3) := by decide +kernel
theorem dX12_emits_23 : decode cX12_emits 23 = .ok (.iconst 2, 1) := by decide +kernel
theorem dX12_emits_24 : decode cX12_emits 24 = .ok (.aload_n 0, 1) := by decide +kernel
theorem dX12_emits_25 : decode cX12_emits 25 = .ok (.getfield 195, 3) := by decide +kernel
theorem dX12_emits_28 : decode cX12_emits 28 = .ok (.imul, 1) := by decide +kernel
theorem dX12_emits_29 : decode cX12_emits 29 = .ok (.iadd, 1) := by decide +kernel
theorem dX12_emits_30 : decode cX12_emits 30 = .ok (.iconst 1, 1) := by decide +kernel
theorem dX12_emits_31 : decode cX12_emits 31 = .ok (.iadd, 1) := by decide +kernel
theorem dX12_emits_32 : decode cX12_emits 32 = .ok (.iload_n 2, 1) := by decide +kernel
theorem dX12_emits_33 : decode cX12_emits 33 = .ok (.iastore, 1) := by decide +kernel
theorem dX12_emits_34 : decode cX12_emits 34 = .ok (.aload_n 0, 1) := by decide +kernel
theorem dX12_emits_35 : decode cX12_emits 35 = .ok (.dup, 1) := by decide +kernel
theorem dX12_emits_36 : decode cX12_emits 36 = .ok (.getfield 195, 3) := by decide +kernel
theorem dX12_emits_39 : decode cX12_emits 39 = .ok (.iconst 1, 1) := by decide +kernel
theorem dX12_emits_40 : decode cX12_emits 40 = .ok (.iadd, 1) := by decide +kernel
theorem dX12_emits_41 : decode cX12_emits 41 = .ok (.putfield 195, 3) := by decide +kernel
theorem dX12_emits_44 : decode cX12_emits 44 = .ok (.return_, 1) := by decide +kernel
theorem dX12_wordOfPart_0 : decode cX12_wordOfPart 0 = .ok (.aload_n 0, 1) := by decide +kernel
theorem dX12_wordOfPart_1 : decode cX12_wordOfPart 1 = .ok (.ldc 178, 2) := by decide +kernel
theorem dX12_wordOfPart_3 : decode cX12_wordOfPart 3 = .ok (.invokevirtual 123, 3) := by decide +kernel
theorem dX12_wordOfPart_6 : decode cX12_wordOfPart 6 = .ok (.ifCond .eq 5, 3) := by decide +kernel
theorem dX12_wordOfPart_9 : decode cX12_wordOfPart 9 = .ok (.iconst 0, 1) := by decide +kernel
theorem dX12_wordOfPart_10 : decode cX12_wordOfPart 10 = .ok (.ireturn, 1) := by decide +kernel
theorem dX12_wordOfPart_11 : decode cX12_wordOfPart 11 = .ok (.aload_n 0, 1) := by decide +kernel
theorem dX12_wordOfPart_12 : decode cX12_wordOfPart 12 = .ok (.ldc 151, 2) := by decide +kernel
theorem dX12_wordOfPart_14 : decode cX12_wordOfPart 14 = .ok (.invokevirtual 123, 3) := by decide +kernel
theorem dX12_wordOfPart_17 : decode cX12_wordOfPart 17 = .ok (.ifCond .eq 5, 3) := by decide +kernel
theorem dX12_wordOfPart_20 : decode cX12_wordOfPart 20 = .ok (.iconst 1, 1) := by decide +kernel
theorem dX12_wordOfPart_21 : decode cX12_wordOfPart 21 = .ok (.ireturn, 1) := by decide +kernel
theorem dX12_wordOfPart_22 : decode cX12_wordOfPart 22 = .ok (.aload_n 0, 1) := by decide +kernel
theorem dX12_wordOfPart_23 : decode cX12_wordOfPart 23 = .ok (.ldc 157, 2) := by decide +kernel
theorem dX12_wordOfPart_25 : decode cX12_wordOfPart 25 = .ok (.invokevirtual 123, 3) := by decide +kernel
theorem dX12_wordOfPart_28 : decode cX12_wordOfPart 28 = .ok (.ifCond .eq 5, 3) := by decide +kernel
theorem dX12_wordOfPart_31 : decode cX12_wordOfPart 31 = .ok (.iconst 2, 1) := by decide +kernel
theorem dX12_wordOfPart_32 : decode cX12_wordOfPart 32 = .ok (.ireturn, 1) := by decide +kernel
theorem dX12_wordOfPart_33 : decode cX12_wordOfPart 33 = .ok (.aload_n 0, 1) := by decide +kernel
theorem dX12_wordOfPart_34 : decode cX12_wordOfPart 34 = .ok (.ldc 143, 2) := by decide +kernel
theorem dX12_wordOfPart_36 : decode cX12_wordOfPart 36 = .ok (.invokevirtual 123, 3) := by decide +kernel
theorem dX12_wordOfPart_39 : decode cX12_wordOfPart 39 = .ok (.ifCond .eq 5, 3) := by decide +kernel
theorem dX12_wordOfPart_42 : decode cX12_wordOfPart 42 = .ok (.iconst 3, 1) := by decide +kernel
theorem dX12_wordOfPart_43 : decode cX12_wordOfPart 43 = .ok (.ireturn, 1) := by decide +kernel
theorem dX12_wordOfPart_44 : decode cX12_wordOfPart 44 = .ok (.aload_n 0, 1) := by decide +kernel
theorem dX12_wordOfPart_45 : decode cX12_wordOfPart 45 = .ok (.ldc 145, 2) := by decide +kernel
theorem dX12_wordOfPart_47 : decode cX12_wordOfPart 47 = .ok (.invokevirtual 123, 3) := by decide +kernel
theorem dX12_wordOfPart_50 : decode cX12_wordOfPart 50 = .ok (.ifCond .eq 5, 3) := by decide +kernel
theorem dX12_wordOfPart_53 : decode cX12_wordOfPart 53 = .ok (.iconst 4, 1) := by decide +kernel
theorem dX12_wordOfPart_54 : decode cX12_wordOfPart 54 = .ok (.ireturn, 1) := by decide +kernel
theorem dX12_wordOfPart_55 : decode cX12_wordOfPart 55 = .ok (.aload_n 0, 1) := by decide +kernel
theorem dX12_wordOfPart_56 : decode cX12_wordOfPart 56 = .ok (.ldc 147, 2) := by decide +kernel
theorem dX12_wordOfPart_58 : decode cX12_wordOfPart 58 = .ok (.invokevirtual 123, 3) := by decide +kernel
theorem dX12_wordOfPart_61 : decode cX12_wordOfPart 61 = .ok (.ifCond .eq 5, 3) := by decide +kernel
theorem dX12_wordOfPart_64 : decode cX12_wordOfPart 64 = .ok (.iconst 5, 1) := by decide +kernel
theorem dX12_wordOfPart_65 : decode cX12_wordOfPart 65 = .ok (.ireturn, 1) := by decide +kernel
theorem dX12_wordOfPart_66 : decode cX12_wordOfPart 66 = .ok (.aload_n 0, 1) := by decide +kernel
theorem dX12_wordOfPart_67 : decode cX12_wordOfPart 67 = .ok (.ldc 198, 2) := by decide +kernel
theorem dX12_wordOfPart_69 : decode cX12_wordOfPart 69 = .ok (.invokevirtual 123, 3) := by decide +kernel
theorem dX12_wordOfPart_72 : decode cX12_wordOfPart 72 = .ok (.ifCond .eq 6, 3) := by decide +kernel
theorem dX12_wordOfPart_75 : decode cX12_wordOfPart 75 = .ok (.bipush 6, 2) := by decide +kernel
theorem dX12_wordOfPart_77 : decode cX12_wordOfPart 77 = .ok (.ireturn, 1) := by decide +kernel
theorem dX12_wordOfPart_78 : decode cX12_wordOfPart 78 = .ok (.aload_n 0, 1) := by decide +kernel
theorem dX12_wordOfPart_79 : decode cX12_wordOfPart 79 = .ok (.ldc 193, 2) := by decide +kernel
theorem dX12_wordOfPart_81 : decode cX12_wordOfPart 81 = .ok (.invokevirtual 123, 3) := by decide +kernel
theorem dX12_wordOfPart_84 : decode cX12_wordOfPart 84 = .ok (.ifCond .eq 8, 3) := by decide +kernel
theorem dX12_wordOfPart_87 : decode cX12_wordOfPart 87 = .ok (.bipush 7, 2) := by decide +kernel
theorem dX12_wordOfPart_89 : decode cX12_wordOfPart 89 = .ok (.goto 4, 3) := by decide +kernel
theorem dX12_wordOfPart_92 : decode cX12_wordOfPart 92 = .ok (.iconst (-1), 1) := by decide +kernel
theorem dX12_wordOfPart_93 : decode cX12_wordOfPart 93 = .ok (.ireturn, 1) := by decide +kernel
theorem dX12_readPart_0 : decode cX12_readPart 0 = .ok (.aload_n 0, 1) := by decide +kernel
theorem dX12_readPart_1 : decode cX12_readPart 1 = .ok (.invokevirtual 120, 3) := by decide +kernel
theorem dX12_readPart_4 : decode cX12_readPart 4 = .ok (.aload_n 0, 1) := by decide +kernel
theorem dX12_readPart_5 : decode cX12_readPart 5 = .ok (.getfield 95, 3) := by decide +kernel
theorem dX12_readPart_8 : decode cX12_readPart 8 = .ok (.aload_n 0, 1) := by decide +kernel
theorem dX12_readPart_9 : decode cX12_readPart 9 = .ok (.getfield 105, 3) := by decide +kernel
theorem dX12_readPart_12 : decode cX12_readPart 12 = .ok (.if_icmp .ne 7, 3) := by decide +kernel
theorem dX12_readPart_15 : decode cX12_readPart 15 = .ok (.iconst 1, 1) := by decide +kernel
theorem dX12_readPart_16 : decode cX12_readPart 16 = .ok (.goto 4, 3) := by decide +kernel
theorem dX12_readPart_19 : decode cX12_readPart 19 = .ok (.iconst 0, 1) := by decide +kernel
theorem dX12_readPart_20 : decode cX12_readPart 20 = .ok (.istore_n 1, 1) := by decide +kernel
theorem dX12_readPart_21 : decode cX12_readPart 21 = .ok (.iload_n 1, 1) := by decide +kernel
theorem dX12_readPart_22 : decode cX12_readPart 22 = .ok (.ifCond .eq 14, 3) := by decide +kernel
theorem dX12_readPart_25 : decode cX12_readPart 25 = .ok (.aload_n 0, 1) := by decide +kernel
theorem dX12_readPart_26 : decode cX12_readPart 26 = .ok (.iconst 0, 1) := by decide +kernel
theorem dX12_readPart_27 : decode cX12_readPart 27 = .ok (.sipush 999, 3) := by decide +kernel
theorem dX12_readPart_30 : decode cX12_readPart 30 = .ok (.invokevirtual 127, 3) := by decide +kernel
theorem dX12_readPart_33 : decode cX12_readPart 33 = .ok (.goto 7, 3) := by decide +kernel
theorem dX12_readPart_36 : decode cX12_readPart 36 = .ok (.aload_n 0, 1) := by decide +kernel
theorem dX12_readPart_37 : decode cX12_readPart 37 = .ok (.invokevirtual 200, 3) := by decide +kernel
theorem dX12_readPart_40 : decode cX12_readPart 40 = .ok (.istore_n 2, 1) := by decide +kernel
theorem dX12_readPart_41 : decode cX12_readPart 41 = .ok (.aload_n 0, 1) := by decide +kernel
theorem dX12_readPart_42 : decode cX12_readPart 42 = .ok (.iload_n 1, 1) := by decide +kernel
theorem dX12_readPart_43 : decode cX12_readPart 43 = .ok (.ifCond .eq 8, 3) := by decide +kernel
theorem dX12_readPart_46 : decode cX12_readPart 46 = .ok (.bipush 11, 2) := by decide +kernel
theorem dX12_readPart_48 : decode cX12_readPart 48 = .ok (.goto 4, 3) := by decide +kernel
theorem dX12_readPart_51 : decode cX12_readPart 51 = .ok (.iload_n 2, 1) := by decide +kernel
theorem dX12_readPart_52 : decode cX12_readPart 52 = .ok (.iload_n 1, 1) := by decide +kernel
theorem dX12_readPart_53 : decode cX12_readPart 53 = .ok (.ifCond .eq 7, 3) := by decide +kernel
theorem dX12_readPart_56 : decode cX12_readPart 56 = .ok (.iload_n 2, 1) := by decide +kernel
theorem dX12_readPart_57 : decode cX12_readPart 57 = .ok (.goto 4, 3) := by decide +kernel
