theorem dX0_feltOf_0 : decode cX0_feltOf 0 = .ok (.iload_n 1, 1) := by decide +kernel
theorem dX0_feltOf_1 : decode cX0_feltOf 1 = .ok (.lookupswitch 45 #[(0, 27), (1, 36)], 27) := by decide +kernel
theorem dX0_feltOf_28 : decode cX0_feltOf 28 = .ok (.aload_n 0, 1) := by decide +kernel
theorem dX0_feltOf_29 : decode cX0_feltOf 29 = .ok (.getfield 9, 3) := by decide +kernel
theorem dX0_feltOf_32 : decode cX0_feltOf 32 = .ok (.iconst 1, 1) := by decide +kernel
theorem dX0_feltOf_33 : decode cX0_feltOf 33 = .ok (.aaload, 1) := by decide +kernel
theorem dX0_feltOf_34 : decode cX0_feltOf 34 = .ok (.iload_n 2, 1) := by decide +kernel
theorem dX0_feltOf_35 : decode cX0_feltOf 35 = .ok (.iaload, 1) := by decide +kernel
theorem dX0_feltOf_36 : decode cX0_feltOf 36 = .ok (.ireturn, 1) := by decide +kernel
theorem dX0_feltOf_37 : decode cX0_feltOf 37 = .ok (.aload_n 0, 1) := by decide +kernel
theorem dX0_feltOf_38 : decode cX0_feltOf 38 = .ok (.getfield 9, 3) := by decide +kernel
theorem dX0_feltOf_41 : decode cX0_feltOf 41 = .ok (.iconst 2, 1) := by decide +kernel
theorem dX0_feltOf_42 : decode cX0_feltOf 42 = .ok (.aaload, 1) := by decide +kernel
theorem dX0_feltOf_43 : decode cX0_feltOf 43 = .ok (.iload_n 2, 1) := by decide +kernel
theorem dX0_feltOf_44 : decode cX0_feltOf 44 = .ok (.iaload, 1) := by decide +kernel
theorem dX0_feltOf_45 : decode cX0_feltOf 45 = .ok (.ireturn, 1) := by decide +kernel
theorem dX0_feltOf_46 : decode cX0_feltOf 46 = .ok (.aload_n 0, 1) := by decide +kernel
theorem dX0_feltOf_47 : decode cX0_feltOf 47 = .ok (.getfield 9, 3) := by decide +kernel
theorem dX0_feltOf_50 : decode cX0_feltOf 50 = .ok (.iconst 3, 1) := by decide +kernel
theorem dX0_feltOf_51 : decode cX0_feltOf 51 = .ok (.aaload, 1) := by decide +kernel
theorem dX0_feltOf_52 : decode cX0_feltOf 52 = .ok (.iload_n 2, 1) := by decide +kernel
theorem dX0_feltOf_53 : decode cX0_feltOf 53 = .ok (.iaload, 1) := by decide +kernel
theorem dX0_feltOf_54 : decode cX0_feltOf 54 = .ok (.bipush 10, 2) := by decide +kernel
theorem dX0_feltOf_56 : decode cX0_feltOf 56 = .ok (.idiv, 1) := by decide +kernel
theorem dX0_feltOf_57 : decode cX0_feltOf 57 = .ok (.ireturn, 1) := by decide +kernel
theorem dX0_fitting_0 : decode cX0_fitting 0 = .ok (.iconst 0, 1) := by decide +kernel
theorem dX0_fitting_1 : decode cX0_fitting 1 = .ok (.istore_n 2, 1) := by decide +kernel
theorem dX0_fitting_2 : decode cX0_fitting 2 = .ok (.iconst 0, 1) := by decide +kernel
theorem dX0_fitting_3 : decode cX0_fitting 3 = .ok (.istore_n 3, 1) := by decide +kernel
theorem dX0_fitting_4 : decode cX0_fitting 4 = .ok (.iload_n 3, 1) := by decide +kernel
theorem dX0_fitting_5 : decode cX0_fitting 5 = .ok (.bipush 8, 2) := by decide +kernel
theorem dX0_fitting_7 : decode cX0_fitting 7 = .ok (.if_icmp .gt 35, 3) := by decide +kernel
theorem dX0_fitting_10 : decode cX0_fitting 10 = .ok (.aload_n 0, 1) := by decide +kernel
theorem dX0_fitting_11 : decode cX0_fitting 11 = .ok (.getfield 9, 3) := by decide +kernel
theorem dX0_fitting_14 : decode cX0_fitting 14 = .ok (.iconst 0, 1) := by decide +kernel
theorem dX0_fitting_15 : decode cX0_fitting 15 = .ok (.aaload, 1) := by decide +kernel
theorem dX0_fitting_16 : decode cX0_fitting 16 = .ok (.iload_n 3, 1) := by decide +kernel
theorem dX0_fitting_17 : decode cX0_fitting 17 = .ok (.iaload, 1) := by decide +kernel
theorem dX0_fitting_18 : decode cX0_fitting 18 = .ok (.ifCond .le 18, 3) := by decide +kernel
theorem dX0_fitting_21 : decode cX0_fitting 21 = .ok (.aload_n 0, 1) := by decide +kernel
theorem dX0_fitting_22 : decode cX0_fitting 22 = .ok (.aload_n 1, 1) := by decide +kernel
theorem dX0_fitting_23 : decode cX0_fitting 23 = .ok (.iload_n 3, 1) := by decide +kernel
theorem dX0_fitting_24 : decode cX0_fitting 24 = .ok (.invokestatic 15, 3) := by decide +kernel
theorem dX0_fitting_27 : decode cX0_fitting 27 = .ok (.ifCond .eq 9, 3) := by decide +kernel
theorem dX0_fitting_30 : decode cX0_fitting 30 = .ok (.iload_n 2, 1) := by decide +kernel
theorem dX0_fitting_31 : decode cX0_fitting 31 = .ok (.iconst 1, 1) := by decide +kernel
theorem dX0_fitting_32 : decode cX0_fitting 32 = .ok (.iload_n 3, 1) := by decide +kernel
theorem dX0_fitting_33 : decode cX0_fitting 33 = .ok (.ishl, 1) := by decide +kernel
theorem dX0_fitting_34 : decode cX0_fitting 34 = .ok (.ior, 1) := by decide +kernel
theorem dX0_fitting_35 : decode cX0_fitting 35 = .ok (.istore_n 2, 1) := by decide +kernel
theorem dX0_fitting_36 : decode cX0_fitting 36 = .ok (.iinc 3 1, 3) := by decide +kernel
theorem dX0_fitting_39 : decode cX0_fitting 39 = .ok (.goto (-35), 3) := by decide +kernel
theorem dX0_fitting_42 : decode cX0_fitting 42 = .ok (.iload_n 2, 1) := by decide +kernel
theorem dX0_fitting_43 : decode cX0_fitting 43 = .ok (.ireturn, 1) := by decide +kernel
theorem dX0_fitsRows_0 : decode cX0_fitsRows 0 = .ok (.iconst 0, 1) := by decide +kernel
theorem dX0_fitsRows_1 : decode cX0_fitsRows 1 = .ok (.istore_n 3, 1) := by decide +kernel
theorem dX0_fitsRows_2 : decode cX0_fitsRows 2 = .ok (.iload_n 3, 1) := by decide +kernel
theorem dX0_fitsRows_3 : decode cX0_fitsRows 3 = .ok (.aload_n 1, 1) := by decide +kernel
theorem dX0_fitsRows_4 : decode cX0_fitsRows 4 = .ok (.getfield 21, 3) := by decide +kernel
theorem dX0_fitsRows_7 : decode cX0_fitsRows 7 = .ok (.if_icmp .ge 34, 3) := by decide +kernel
theorem dX0_fitsRows_10 : decode cX0_fitsRows 10 = .ok (.aload_n 0, 1) := by decide +kernel
theorem dX0_fitsRows_11 : decode cX0_fitsRows 11 = .ok (.aload_n 1, 1) := by decide +kernel
theorem dX0_fitsRows_12 : decode cX0_fitsRows 12 = .ok (.iload_n 3, 1) := by decide +kernel
theorem dX0_fitsRows_13 : decode cX0_fitsRows 13 = .ok (.invokevirtual 27, 3) := by decide +kernel
theorem dX0_fitsRows_16 : decode cX0_fitsRows 16 = .ok (.iload_n 2, 1) := by decide +kernel
theorem dX0_fitsRows_17 : decode cX0_fitsRows 17 = .ok (.invokestatic 31, 3) := by decide +kernel
theorem dX0_fitsRows_20 : decode cX0_fitsRows 20 = .ok (.aload_n 1, 1) := by decide +kernel
theorem dX0_fitsRows_21 : decode cX0_fitsRows 21 = .ok (.iload_n 3, 1) := by decide +kernel
theorem dX0_fitsRows_22 : decode cX0_fitsRows 22 = .ok (.invokevirtual 35, 3) := by decide +kernel
theorem dX0_fitsRows_25 : decode cX0_fitsRows 25 = .ok (.isub, 1) := by decide +kernel
theorem dX0_fitsRows_26 : decode cX0_fitsRows 26 = .ok (.invokestatic 38, 3) := by decide +kernel
theorem dX0_fitsRows_29 : decode cX0_fitsRows 29 = .ok (.iconst 1, 1) := by decide +kernel
theorem dX0_fitsRows_30 : decode cX0_fitsRows 30 = .ok (.if_icmp .le 5, 3) := by decide +kernel
theorem dX0_fitsRows_33 : decode cX0_fitsRows 33 = .ok (.iconst 0, 1) := by decide +kernel
theorem dX0_fitsRows_34 : decode cX0_fitsRows 34 = .ok (.ireturn, 1) := by decide +kernel
theorem dX0_fitsRows_35 : decode cX0_fitsRows 35 = .ok (.iinc 3 1, 3) := by decide +kernel
theorem dX0_fitsRows_38 : decode cX0_fitsRows 38 = .ok (.goto (-36), 3) := by decide +kernel
theorem dX0_fitsRows_41 : decode cX0_fitsRows 41 = .ok (.iconst 1, 1) := by decide +kernel
theorem dX0_fitsRows_42 : decode cX0_fitsRows 42 = .ok (.ireturn, 1) := by decide +kernel
theorem dX0_likeliest_0 : decode cX0_likeliest 0 = .ok (.iconst (-1), 1) := by decide +kernel
theorem dX0_likeliest_1 : decode cX0_likeliest 1 = .ok (.istore_n 2, 1) := by decide +kernel
theorem dX0_likeliest_2 : decode cX0_likeliest 2 = .ok (.iconst 0, 1) := by decide +kernel
theorem dX0_likeliest_3 : decode cX0_likeliest 3 = .ok (.istore_n 3, 1) := by decide +kernel
theorem dX0_likeliest_4 : decode cX0_likeliest 4 = .ok (.iconst 0, 1) := by decide +kernel
theorem dX0_likeliest_5 : decode cX0_likeliest 5 = .ok (.istore 4, 2) := by decide +kernel
theorem dX0_likeliest_7 : decode cX0_likeliest 7 = .ok (.iload 4, 2) := by decide +kernel
theorem dX0_likeliest_9 : decode cX0_likeliest 9 = .ok (.bipush 8, 2) := by decide +kernel
theorem dX0_likeliest_11 : decode cX0_likeliest 11 = .ok (.if_icmp .gt 30, 3) := by decide +kernel
theorem dX0_likeliest_14 : decode cX0_likeliest 14 = .ok (.aload_n 0, 1) := by decide +kernel
theorem dX0_likeliest_15 : decode cX0_likeliest 15 = .ok (.iload_n 1, 1) := by decide +kernel
theorem dX0_likeliest_16 : decode cX0_likeliest 16 = .ok (.iload 4, 2) := by decide +kernel
theorem dX0_likeliest_18 : decode cX0_likeliest 18 = .ok (.invokestatic 43, 3) := by decide +kernel
theorem dX0_likeliest_21 : decode cX0_likeliest 21 = .ok (.istore 5, 2) := by decide +kernel
theorem dX0_likeliest_23 : decode cX0_likeliest 23 = .ok (.iload 5, 2) := by decide +kernel
theorem dX0_likeliest_25 : decode cX0_likeliest 25 = .ok (.iload_n 3, 1) := by decide +kernel
theorem dX0_likeliest_26 : decode cX0_likeliest 26 = .ok (.if_icmp .le 9, 3) := by decide +kernel
theorem dX0_likeliest_29 : decode cX0_likeliest 29 = .ok (.iload 4, 2) := by decide +kernel
theorem dX0_likeliest_31 : decode cX0_likeliest 31 = .ok (.istore_n 2, 1) := by decide +kernel
theorem dX0_likeliest_32 : decode cX0_likeliest 32 = .ok (.iload 5, 2) := by decide +kernel
theorem dX0_likeliest_34 : decode cX0_likeliest 34 = .ok (.istore_n 3, 1) := by decide +kernel
theorem dX0_likeliest_35 : decode cX0_likeliest 35 = .ok (.iinc 4 1, 3) := by decide +kernel
theorem dX0_likeliest_38 : decode cX0_likeliest 38 = .ok (.goto (-31), 3) := by decide +kernel
theorem dX0_likeliest_41 : decode cX0_likeliest 41 = .ok (.iload_n 2, 1) := by decide +kernel
theorem dX0_likeliest_42 : decode cX0_likeliest 42 = .ok (.ireturn, 1) := by decide +kernel
theorem dX0_weightIn_0 : decode cX0_weightIn 0 = .ok (.iload_n 1, 1) := by decide +kernel
theorem dX0_weightIn_1 : decode cX0_weightIn 1 = .ok (.iload_n 2, 1) := by decide +kernel
theorem dX0_weightIn_2 : decode cX0_weightIn 2 = .ok (.ishr, 1) := by decide +kernel
theorem dX0_weightIn_3 : decode cX0_weightIn 3 = .ok (.iconst 1, 1) := by decide +kernel
theorem dX0_weightIn_4 : decode cX0_weightIn 4 = .ok (.iand, 1) := by decide +kernel
theorem dX0_weightIn_5 : decode cX0_weightIn 5 = .ok (.ifCond .eq 14, 3) := by decide +kernel
theorem dX0_weightIn_8 : decode cX0_weightIn 8 = .ok (.aload_n 0, 1) := by decide +kernel
theorem dX0_weightIn_9 : decode cX0_weightIn 9 = .ok (.getfield 9, 3) := by decide +kernel
theorem dX0_weightIn_12 : decode cX0_weightIn 12 = .ok (.iconst 0, 1) := by decide +kernel
theorem dX0_weightIn_13 : decode cX0_weightIn 13 = .ok (.aaload, 1) := by decide +kernel
theorem dX0_weightIn_14 : decode cX0_weightIn 14 = .ok (.iload_n 2, 1) := by decide +kernel
theorem dX0_weightIn_15 : decode cX0_weightIn 15 = .ok (.iaload, 1) := by decide +kernel
theorem dX0_weightIn_16 : decode cX0_weightIn 16 = .ok (.goto 4, 3) := by decide +kernel
theorem dX0_weightIn_19 : decode cX0_weightIn 19 = .ok (.iconst 0, 1) := by decide +kernel
theorem dX0_weightIn_20 : decode cX0_weightIn 20 = .ok (.ireturn, 1) := by decide +kernel
theorem dX0_weightsOf_0 : decode cX0_weightsOf 0 = .ok (.iconst 0, 1) := by decide +kernel
theorem dX0_weightsOf_1 : decode cX0_weightsOf 1 = .ok (.istore_n 2, 1) := by decide +kernel
theorem dX0_weightsOf_2 : decode cX0_weightsOf 2 = .ok (.iconst 0, 1) := by decide +kernel
theorem dX0_weightsOf_3 : decode cX0_weightsOf 3 = .ok (.istore_n 3, 1) := by decide +kernel
theorem dX0_weightsOf_4 : decode cX0_weightsOf 4 = .ok (.iload_n 3, 1) := by decide +kernel
theorem dX0_weightsOf_5 : decode cX0_weightsOf 5 = .ok (.bipush 8, 2) := by decide +kernel
theorem dX0_weightsOf_7 : decode cX0_weightsOf 7 = .ok (.if_icmp .gt 18, 3) := by decide +kernel
theorem dX0_weightsOf_10 : decode cX0_weightsOf 10 = .ok (.iload_n 2, 1) := by decide +kernel
theorem dX0_weightsOf_11 : decode cX0_weightsOf 11 = .ok (.aload_n 0, 1) := by decide +kernel
theorem dX0_weightsOf_12 : decode cX0_weightsOf 12 = .ok (.iload_n 1, 1) := by decide +kernel
theorem dX0_weightsOf_13 : decode cX0_weightsOf 13 = .ok (.iload_n 3, 1) := by decide +kernel
theorem dX0_weightsOf_14 : decode cX0_weightsOf 14 = .ok (.invokestatic 43, 3) := by decide +kernel
theorem dX0_weightsOf_17 : decode cX0_weightsOf 17 = .ok (.iadd, 1) := by decide +kernel
theorem dX0_weightsOf_18 : decode cX0_weightsOf 18 = .ok (.istore_n 2, 1) := by decide +kernel
theorem dX0_weightsOf_19 : decode cX0_weightsOf 19 = .ok (.iinc 3 1, 3) := by decide +kernel
theorem dX0_weightsOf_22 : decode cX0_weightsOf 22 = .ok (.goto (-18), 3) := by decide +kernel
theorem dX0_weightsOf_25 : decode cX0_weightsOf 25 = .ok (.iload_n 2, 1) := by decide +kernel
theorem dX0_weightsOf_26 : decode cX0_weightsOf 26 = .ok (.ireturn, 1) := by decide +kernel
theorem dX0_oddsOf_0 : decode cX0_oddsOf 0 = .ok (.aload_n 0, 1) := by decide +kernel
theorem dX0_oddsOf_1 : decode cX0_oddsOf 1 = .ok (.iload_n 1, 1) := by decide +kernel
theorem dX0_oddsOf_2 : decode cX0_oddsOf 2 = .ok (.invokestatic 46, 3) := by decide +kernel
theorem dX0_oddsOf_5 : decode cX0_oddsOf 5 = .ok (.istore_n 3, 1) := by decide +kernel
theorem dX0_oddsOf_6 : decode cX0_oddsOf 6 = .ok (.iload_n 3, 1) := by decide +kernel
theorem dX0_oddsOf_7 : decode cX0_oddsOf 7 = .ok (.ifCond .le 18, 3) := by decide +kernel
theorem dX0_oddsOf_10 : decode cX0_oddsOf 10 = .ok (.aload_n 0, 1) := by decide +kernel
theorem dX0_oddsOf_11 : decode cX0_oddsOf 11 = .ok (.iload_n 1, 1) := by decide +kernel
theorem dX0_oddsOf_12 : decode cX0_oddsOf 12 = .ok (.iload_n 2, 1) := by decide +kernel
theorem dX0_oddsOf_13 : decode cX0_oddsOf 13 = .ok (.invokestatic 43, 3) := by decide +kernel
theorem dX0_oddsOf_16 : decode cX0_oddsOf 16 = .ok (.sipush 10000, 3) := by decide +kernel
theorem dX0_oddsOf_19 : decode cX0_oddsOf 19 = .ok (.imul, 1) := by decide +kernel
theorem dX0_oddsOf_20 : decode cX0_oddsOf 20 = .ok (.iload_n 3, 1) := by decide +kernel
theorem dX0_oddsOf_21 : decode cX0_oddsOf 21 = .ok (.idiv, 1) := by decide +kernel
theorem dX0_oddsOf_22 : decode cX0_oddsOf 22 = .ok (.goto 4, 3) := by decide +kernel
theorem dX0_oddsOf_25 : decode cX0_oddsOf 25 = .ok (.iconst 0, 1) := by decide +kernel
theorem dX0_oddsOf_26 : decode cX0_oddsOf 26 = .ok (.ireturn, 1) := by decide +kernel
theorem dX0_expected_0 : decode cX0_expected 0 = .ok (.aload_n 0, 1) := by decide +kernel
theorem dX0_expected_1 : decode cX0_expected 1 = .ok (.iload_n 1, 1) := by decide +kernel
theorem dX0_expected_2 : decode cX0_expected 2 = .ok (.invokestatic 46, 3) := by decide +kernel
theorem dX0_expected_5 : decode cX0_expected 5 = .ok (.istore_n 2, 1) := by decide +kernel
theorem dX0_expected_6 : decode cX0_expected 6 = .ok (.iconst 0, 1) := by decide +kernel
theorem dX0_expected_7 : decode cX0_expected 7 = .ok (.istore_n 3, 1) := by decide +kernel
theorem dX0_expected_8 : decode cX0_expected 8 = .ok (.iconst 0, 1) := by decide +kernel
theorem dX0_expected_9 : decode cX0_expected 9 = .ok (.istore 4, 2) := by decide +kernel
theorem dX0_expected_11 : decode cX0_expected 11 = .ok (.iload 4, 2) := by decide +kernel
theorem dX0_expected_13 : decode cX0_expected 13 = .ok (.bipush 8, 2) := by decide +kernel
theorem dX0_expected_15 : decode cX0_expected 15 = .ok (.if_icmp .gt 29, 3) := by decide +kernel
theorem dX0_expected_18 : decode cX0_expected 18 = .ok (.iload_n 3, 1) := by decide +kernel
theorem dX0_expected_19 : decode cX0_expected 19 = .ok (.aload_n 0, 1) := by decide +kernel
theorem dX0_expected_20 : decode cX0_expected 20 = .ok (.iload_n 1, 1) := by decide +kernel
theorem dX0_expected_21 : decode cX0_expected 21 = .ok (.iload 4, 2) := by decide +kernel
theorem dX0_expected_23 : decode cX0_expected 23 = .ok (.invokestatic 43, 3) := by decide +kernel
theorem dX0_expected_26 : decode cX0_expected 26 = .ok (.aload_n 0, 1) := by decide +kernel
theorem dX0_expected_27 : decode cX0_expected 27 = .ok (.getfield 9, 3) := by decide +kernel
theorem dX0_expected_30 : decode cX0_expected 30 = .ok (.iconst 3, 1) := by decide +kernel
theorem dX0_expected_31 : decode cX0_expected 31 = .ok (.aaload, 1) := by decide +kernel
theorem dX0_expected_32 : decode cX0_expected 32 = .ok (.iload 4, 2) := by decide +kernel
theorem dX0_expected_34 : decode cX0_expected 34 = .ok (.iaload, 1) := by decide +kernel
theorem dX0_expected_35 : decode cX0_expected 35 = .ok (.imul, 1) := by decide +kernel
theorem dX0_expected_36 : decode cX0_expected 36 = .ok (.iadd, 1) := by decide +kernel
theorem dX0_expected_37 : decode cX0_expected 37 = .ok (.istore_n 3, 1) := by decide +kernel
theorem dX0_expected_38 : decode cX0_expected 38 = .ok (.iinc 4 1, 3) := by decide +kernel
theorem dX0_expected_41 : decode cX0_expected 41 = .ok (.goto (-30), 3) := by decide +kernel
theorem dX0_expected_44 : decode cX0_expected 44 = .ok (.iload_n 2, 1) := by decide +kernel
theorem dX0_expected_45 : decode cX0_expected 45 = .ok (.ifCond .le 9, 3) := by decide +kernel
theorem dX0_expected_48 : decode cX0_expected 48 = .ok (.iload_n 3, 1) := by decide +kernel
theorem dX0_expected_49 : decode cX0_expected 49 = .ok (.iload_n 2, 1) := by decide +kernel
theorem dX0_expected_50 : decode cX0_expected 50 = .ok (.idiv, 1) := by decide +kernel
theorem dX0_expected_51 : decode cX0_expected 51 = .ok (.goto 4, 3) := by decide +kernel
theorem dX0_expected_54 : decode cX0_expected 54 = .ok (.iconst 0, 1) := by decide +kernel
theorem dX0_expected_55 : decode cX0_expected 55 = .ok (.ireturn, 1) := by decide +kernel
theorem dX0_bestFeel_0 : decode cX0_bestFeel 0 = .ok (.iload_n 1, 1) := by decide +kernel
theorem dX0_bestFeel_1 : decode cX0_bestFeel 1 = .ok (.invokestatic 50, 3) := by decide +kernel
theorem dX0_bestFeel_4 : decode cX0_bestFeel 4 = .ok (.iconst 2, 1) := by decide +kernel
theorem dX0_bestFeel_5 : decode cX0_bestFeel 5 = .ok (.if_icmp .ge 5, 3) := by decide +kernel
theorem dX0_bestFeel_8 : decode cX0_bestFeel 8 = .ok (.iconst (-1), 1) := by decide +kernel
theorem dX0_bestFeel_9 : decode cX0_bestFeel 9 = .ok (.ireturn, 1) := by decide +kernel
theorem dX0_bestFeel_10 : decode cX0_bestFeel 10 = .ok (.iconst 0, 1) := by decide +kernel
theorem dX0_bestFeel_11 : decode cX0_bestFeel 11 = .ok (.istore_n 2, 1) := by decide +kernel
theorem dX0_bestFeel_12 : decode cX0_bestFeel 12 = .ok (.iconst 1, 1) := by decide +kernel
theorem dX0_bestFeel_13 : decode cX0_bestFeel 13 = .ok (.istore_n 3, 1) := by decide +kernel
theorem dX0_bestFeel_14 : decode cX0_bestFeel 14 = .ok (.iload_n 3, 1) := by decide +kernel
theorem dX0_bestFeel_15 : decode cX0_bestFeel 15 = .ok (.iconst 3, 1) := by decide +kernel
theorem dX0_bestFeel_16 : decode cX0_bestFeel 16 = .ok (.if_icmp .ge 26, 3) := by decide +kernel
theorem dX0_bestFeel_19 : decode cX0_bestFeel 19 = .ok (.aload_n 0, 1) := by decide +kernel
theorem dX0_bestFeel_20 : decode cX0_bestFeel 20 = .ok (.iload_n 1, 1) := by decide +kernel
theorem dX0_bestFeel_21 : decode cX0_bestFeel 21 = .ok (.iload_n 3, 1) := by decide +kernel
theorem dX0_bestFeel_22 : decode cX0_bestFeel 22 = .ok (.invokestatic 55, 3) := by decide +kernel
theorem dX0_bestFeel_25 : decode cX0_bestFeel 25 = .ok (.aload_n 0, 1) := by decide +kernel
theorem dX0_bestFeel_26 : decode cX0_bestFeel 26 = .ok (.iload_n 1, 1) := by decide +kernel
theorem dX0_bestFeel_27 : decode cX0_bestFeel 27 = .ok (.iload_n 2, 1) := by decide +kernel
theorem dX0_bestFeel_28 : decode cX0_bestFeel 28 = .ok (.invokestatic 55, 3) := by decide +kernel
theorem dX0_bestFeel_31 : decode cX0_bestFeel 31 = .ok (.if_icmp .ge 5, 3) := by decide +kernel
theorem dX0_bestFeel_34 : decode cX0_bestFeel 34 = .ok (.iload_n 3, 1) := by decide +kernel
theorem dX0_bestFeel_35 : decode cX0_bestFeel 35 = .ok (.istore_n 2, 1) := by decide +kernel
theorem dX0_bestFeel_36 : decode cX0_bestFeel 36 = .ok (.iinc 3 1, 3) := by decide +kernel
theorem dX0_bestFeel_39 : decode cX0_bestFeel 39 = .ok (.goto (-25), 3) := by decide +kernel
theorem dX0_bestFeel_42 : decode cX0_bestFeel 42 = .ok (.iload_n 2, 1) := by decide +kernel
theorem dX0_bestFeel_43 : decode cX0_bestFeel 43 = .ok (.ireturn, 1) := by decide +kernel
theorem dX0_greatestPart_0 : decode cX0_greatestPart 0 = .ok (.iconst 0, 1) := by decide +kernel
theorem dX0_greatestPart_1 : decode cX0_greatestPart 1 = .ok (.istore_n 3, 1) := by decide +kernel
theorem dX0_greatestPart_2 : decode cX0_greatestPart 2 = .ok (.iconst 0, 1) := by decide +kernel
theorem dX0_greatestPart_3 : decode cX0_greatestPart 3 = .ok (.istore 4, 2) := by decide +kernel
theorem dX0_greatestPart_5 : decode cX0_greatestPart 5 = .ok (.iload 4, 2) := by decide +kernel
theorem dX0_greatestPart_7 : decode cX0_greatestPart 7 = .ok (.bipush 8, 2) := by decide +kernel
theorem dX0_greatestPart_9 : decode cX0_greatestPart 9 = .ok (.if_icmp .gt 31, 3) := by decide +kernel
theorem dX0_greatestPart_12 : decode cX0_greatestPart 12 = .ok (.iload_n 1, 1) := by decide +kernel
theorem dX0_greatestPart_13 : decode cX0_greatestPart 13 = .ok (.iload 4, 2) := by decide +kernel
theorem dX0_greatestPart_15 : decode cX0_greatestPart 15 = .ok (.ishr, 1) := by decide +kernel
theorem dX0_greatestPart_16 : decode cX0_greatestPart 16 = .ok (.iconst 1, 1) := by decide +kernel
theorem dX0_greatestPart_17 : decode cX0_greatestPart 17 = .ok (.iand, 1) := by decide +kernel
theorem dX0_greatestPart_18 : decode cX0_greatestPart 18 = .ok (.ifCond .eq 16, 3) := by decide +kernel
theorem dX0_greatestPart_21 : decode cX0_greatestPart 21 = .ok (.iload_n 3, 1) := by decide +kernel
theorem dX0_greatestPart_22 : decode cX0_greatestPart 22 = .ok (.aload_n 0, 1) := by decide +kernel
theorem dX0_greatestPart_23 : decode cX0_greatestPart 23 = .ok (.iload_n 1, 1) := by decide +kernel
theorem dX0_greatestPart_24 : decode cX0_greatestPart 24 = .ok (.iload_n 2, 1) := by decide +kernel
theorem dX0_greatestPart_25 : decode cX0_greatestPart 25 = .ok (.iload 4, 2) := by decide +kernel
theorem dX0_greatestPart_27 : decode cX0_greatestPart 27 = .ok (.invokestatic 58, 3) := by decide +kernel
theorem dX0_greatestPart_30 : decode cX0_greatestPart 30 = .ok (.invokestatic 62, 3) := by decide +kernel
theorem dX0_greatestPart_33 : decode cX0_greatestPart 33 = .ok (.istore_n 3, 1) := by decide +kernel
theorem dX0_greatestPart_34 : decode cX0_greatestPart 34 = .ok (.iinc 4 1, 3) := by decide +kernel
theorem dX0_greatestPart_37 : decode cX0_greatestPart 37 = .ok (.goto (-32), 3) := by decide +kernel
theorem dX0_greatestPart_40 : decode cX0_greatestPart 40 = .ok (.iload_n 3, 1) := by decide +kernel
theorem dX0_greatestPart_41 : decode cX0_greatestPart 41 = .ok (.ireturn, 1) := by decide +kernel
theorem dX0_partOf_0 : decode cX0_partOf 0 = .ok (.iconst 0, 1) := by decide +kernel
theorem dX0_partOf_1 : decode cX0_partOf 1 = .ok (.istore 4, 2) := by decide +kernel
theorem dX0_partOf_3 : decode cX0_partOf 3 = .ok (.iconst 0, 1) := by decide +kernel
theorem dX0_partOf_4 : decode cX0_partOf 4 = .ok (.istore 5, 2) := by decide +kernel
theorem dX0_partOf_6 : decode cX0_partOf 6 = .ok (.iload 5, 2) := by decide +kernel
theorem dX0_partOf_8 : decode cX0_partOf 8 = .ok (.bipush 8, 2) := by decide +kernel
theorem dX0_partOf_10 : decode cX0_partOf 10 = .ok (.if_icmp .gt 37, 3) := by decide +kernel
theorem dX0_partOf_13 : decode cX0_partOf 13 = .ok (.iload_n 1, 1) := by decide +kernel
theorem dX0_partOf_14 : decode cX0_partOf 14 = .ok (.iload 5, 2) := by decide +kernel
theorem dX0_partOf_16 : decode cX0_partOf 16 = .ok (.ishr, 1) := by decide +kernel
theorem dX0_partOf_17 : decode cX0_partOf 17 = .ok (.iconst 1, 1) := by decide +kernel
theorem dX0_partOf_18 : decode cX0_partOf 18 = .ok (.iand, 1) := by decide +kernel
theorem dX0_partOf_19 : decode cX0_partOf 19 = .ok (.ifCond .eq 22, 3) := by decide +kernel
theorem dX0_partOf_22 : decode cX0_partOf 22 = .ok (.aload_n 0, 1) := by decide +kernel
theorem dX0_partOf_23 : decode cX0_partOf 23 = .ok (.iload_n 2, 1) := by decide +kernel
theorem dX0_partOf_24 : decode cX0_partOf 24 = .ok (.iload 5, 2) := by decide +kernel
theorem dX0_partOf_26 : decode cX0_partOf 26 = .ok (.invokestatic 31, 3) := by decide +kernel
theorem dX0_partOf_29 : decode cX0_partOf 29 = .ok (.aload_n 0, 1) := by decide +kernel
theorem dX0_partOf_30 : decode cX0_partOf 30 = .ok (.iload_n 2, 1) := by decide +kernel
theorem dX0_partOf_31 : decode cX0_partOf 31 = .ok (.iload_n 3, 1) := by decide +kernel
theorem dX0_partOf_32 : decode cX0_partOf 32 = .ok (.invokestatic 31, 3) := by decide +kernel
theorem dX0_partOf_35 : decode cX0_partOf 35 = .ok (.if_icmp .ne 6, 3) := by decide +kernel
theorem dX0_partOf_38 : decode cX0_partOf 38 = .ok (.iinc 4 1, 3) := by decide +kernel
theorem dX0_partOf_41 : decode cX0_partOf 41 = .ok (.iinc 5 1, 3) := by decide +kernel
theorem dX0_partOf_44 : decode cX0_partOf 44 = .ok (.goto (-38), 3) := by decide +kernel
theorem dX0_partOf_47 : decode cX0_partOf 47 = .ok (.iload 4, 2) := by decide +kernel
theorem dX0_partOf_49 : decode cX0_partOf 49 = .ok (.ireturn, 1) := by decide +kernel
theorem dX1_init_0 : decode cX1_init 0 = .ok (.aload_n 0, 1) := by decide +kernel
theorem dX1_init_1 : decode cX1_init 1 = .ok (.invokespecial 3, 3) := by decide +kernel
theorem dX1_init_4 : decode cX1_init 4 = .ok (.aload_n 0, 1) := by decide +kernel
theorem dX1_init_5 : decode cX1_init 5 = .ok (.sipush 1000, 3) := by decide +kernel
theorem dX1_init_8 : decode cX1_init 8 = .ok (.newarray .boolean, 2) := by decide +kernel
theorem dX1_init_10 : decode cX1_init 10 = .ok (.putfield 11, 3) := by decide +kernel
theorem dX1_init_13 : decode cX1_init 13 = .ok (.aload_n 0, 1) := by decide +kernel
theorem dX1_init_14 : decode cX1_init 14 = .ok (.sipush 1000, 3) := by decide +kernel
theorem dX1_init_17 : decode cX1_init 17 = .ok (.newarray .int, 2) := by decide +kernel
theorem dX1_init_19 : decode cX1_init 19 = .ok (.putfield 15, 3) := by decide +kernel
theorem dX1_init_22 : decode cX1_init 22 = .ok (.aload_n 0, 1) := by decide +kernel
theorem dX1_init_23 : decode cX1_init 23 = .ok (.iconst 0, 1) := by decide +kernel
theorem dX1_init_24 : decode cX1_init 24 = .ok (.putfield 19, 3) := by decide +kernel
theorem dX1_init_27 : decode cX1_init 27 = .ok (.return_, 1) := by decide +kernel
theorem dX1_fitTo_0 : decode cX1_fitTo 0 = .ok (.aload_n 0, 1) := by decide +kernel
theorem dX1_fitTo_1 : decode cX1_fitTo 1 = .ok (.iconst 0, 1) := by decide +kernel
theorem dX1_fitTo_2 : decode cX1_fitTo 2 = .ok (.putfield 19, 3) := by decide +kernel
theorem dX1_fitTo_5 : decode cX1_fitTo 5 = .ok (.iconst 0, 1) := by decide +kernel
theorem dX1_fitTo_6 : decode cX1_fitTo 6 = .ok (.istore_n 3, 1) := by decide +kernel
theorem dX1_fitTo_7 : decode cX1_fitTo 7 = .ok (.iload_n 3, 1) := by decide +kernel
theorem dX1_fitTo_8 : decode cX1_fitTo 8 = .ok (.sipush 1000, 3) := by decide +kernel
theorem dX1_fitTo_11 : decode cX1_fitTo 11 = .ok (.if_icmp .ge 40, 3) := by decide +kernel
theorem dX1_fitTo_14 : decode cX1_fitTo 14 = .ok (.aload_n 0, 1) := by decide +kernel
theorem dX1_fitTo_15 : decode cX1_fitTo 15 = .ok (.getfield 11, 3) := by decide +kernel
theorem dX1_fitTo_18 : decode cX1_fitTo 18 = .ok (.iload_n 3, 1) := by decide +kernel
theorem dX1_fitTo_19 : decode cX1_fitTo 19 = .ok (.aload_n 1, 1) := by decide +kernel
theorem dX1_fitTo_20 : decode cX1_fitTo 20 = .ok (.aload_n 2, 1) := by decide +kernel
theorem dX1_fitTo_21 : decode cX1_fitTo 21 = .ok (.iload_n 3, 1) := by decide +kernel
theorem dX1_fitTo_22 : decode cX1_fitTo 22 = .ok (.invokestatic 23, 3) := by decide +kernel
theorem dX1_fitTo_25 : decode cX1_fitTo 25 = .ok (.bastore, 1) := by decide +kernel
theorem dX1_fitTo_26 : decode cX1_fitTo 26 = .ok (.aload_n 0, 1) := by decide +kernel
theorem dX1_fitTo_27 : decode cX1_fitTo 27 = .ok (.getfield 11, 3) := by decide +kernel
theorem dX1_fitTo_30 : decode cX1_fitTo 30 = .ok (.iload_n 3, 1) := by decide +kernel
theorem dX1_fitTo_31 : decode cX1_fitTo 31 = .ok (.baload, 1) := by decide +kernel
theorem dX1_fitTo_32 : decode cX1_fitTo 32 = .ok (.ifCond .eq 13, 3) := by decide +kernel
theorem dX1_fitTo_35 : decode cX1_fitTo 35 = .ok (.aload_n 0, 1) := by decide +kernel
theorem dX1_fitTo_36 : decode cX1_fitTo 36 = .ok (.dup, 1) := by decide +kernel
theorem dX1_fitTo_37 : decode cX1_fitTo 37 = .ok (.getfield 19, 3) := by decide +kernel
theorem dX1_fitTo_40 : decode cX1_fitTo 40 = .ok (.iconst 1, 1) := by decide +kernel
theorem dX1_fitTo_41 : decode cX1_fitTo 41 = .ok (.iadd, 1) := by decide +kernel
theorem dX1_fitTo_42 : decode cX1_fitTo 42 = .ok (.putfield 19, 3) := by decide +kernel
theorem dX1_fitTo_45 : decode cX1_fitTo 45 = .ok (.iinc 3 1, 3) := by decide +kernel
theorem dX1_fitTo_48 : decode cX1_fitTo 48 = .ok (.goto (-41), 3) := by decide +kernel
theorem dX1_fitTo_51 : decode cX1_fitTo 51 = .ok (.return_, 1) := by decide +kernel
theorem dX1_fateBy_0 : decode cX1_fateBy 0 = .ok (.aload_n 0, 1) := by decide +kernel
theorem dX1_fateBy_1 : decode cX1_fateBy 1 = .ok (.getfield 27, 3) := by decide +kernel
theorem dX1_fateBy_4 : decode cX1_fateBy 4 = .ok (.iconst 3, 1) := by decide +kernel
theorem dX1_fateBy_5 : decode cX1_fateBy 5 = .ok (.aaload, 1) := by decide +kernel
theorem dX1_fateBy_6 : decode cX1_fateBy 6 = .ok (.iload_n 2, 1) := by decide +kernel
theorem dX1_fateBy_7 : decode cX1_fateBy 7 = .ok (.iaload, 1) := by decide +kernel
theorem dX1_fateBy_8 : decode cX1_fateBy 8 = .ok (.iload_n 1, 1) := by decide +kernel
theorem dX1_fateBy_9 : decode cX1_fateBy 9 = .ok (.bipush 100, 2) := by decide +kernel
theorem dX1_fateBy_11 : decode cX1_fateBy 11 = .ok (.idiv, 1) := by decide +kernel
theorem dX1_fateBy_12 : decode cX1_fateBy 12 = .ok (.imul, 1) := by decide +kernel
theorem dX1_fateBy_13 : decode cX1_fateBy 13 = .ok (.iload_n 1, 1) := by decide +kernel
theorem dX1_fateBy_14 : decode cX1_fateBy 14 = .ok (.bipush 100, 2) := by decide +kernel
theorem dX1_fateBy_16 : decode cX1_fateBy 16 = .ok (.irem, 1) := by decide +kernel
theorem dX1_fateBy_17 : decode cX1_fateBy 17 = .ok (.iadd, 1) := by decide +kernel
theorem dX1_fateBy_18 : decode cX1_fateBy 18 = .ok (.ireturn, 1) := by decide +kernel
theorem dX1_fitsRows_0 : decode cX1_fitsRows 0 = .ok (.iconst 0, 1) := by decide +kernel
theorem dX1_fitsRows_1 : decode cX1_fitsRows 1 = .ok (.istore_n 3, 1) := by decide +kernel
theorem dX1_fitsRows_2 : decode cX1_fitsRows 2 = .ok (.iload_n 3, 1) := by decide +kernel
theorem dX1_fitsRows_3 : decode cX1_fitsRows 3 = .ok (.aload_n 1, 1) := by decide +kernel
theorem dX1_fitsRows_4 : decode cX1_fitsRows 4 = .ok (.getfield 33, 3) := by decide +kernel
theorem dX1_fitsRows_7 : decode cX1_fitsRows 7 = .ok (.if_icmp .ge 29, 3) := by decide +kernel
theorem dX1_fitsRows_10 : decode cX1_fitsRows 10 = .ok (.aload_n 0, 1) := by decide +kernel
theorem dX1_fitsRows_11 : decode cX1_fitsRows 11 = .ok (.iload_n 2, 1) := by decide +kernel
theorem dX1_fitsRows_12 : decode cX1_fitsRows 12 = .ok (.aload_n 1, 1) := by decide +kernel
theorem dX1_fitsRows_13 : decode cX1_fitsRows 13 = .ok (.iload_n 3, 1) := by decide +kernel
theorem dX1_fitsRows_14 : decode cX1_fitsRows 14 = .ok (.invokevirtual 38, 3) := by decide +kernel
theorem dX1_fitsRows_17 : decode cX1_fitsRows 17 = .ok (.invokestatic 42, 3) := by decide +kernel
theorem dX1_fitsRows_20 : decode cX1_fitsRows 20 = .ok (.aload_n 1, 1) := by decide +kernel
theorem dX1_fitsRows_21 : decode cX1_fitsRows 21 = .ok (.iload_n 3, 1) := by decide +kernel
theorem dX1_fitsRows_22 : decode cX1_fitsRows 22 = .ok (.invokevirtual 46, 3) := by decide +kernel
theorem dX1_fitsRows_25 : decode cX1_fitsRows 25 = .ok (.if_icmp .eq 5, 3) := by decide +kernel
theorem dX1_fitsRows_28 : decode cX1_fitsRows 28 = .ok (.iconst 0, 1) := by decide +kernel
theorem dX1_fitsRows_29 : decode cX1_fitsRows 29 = .ok (.ireturn, 1) := by decide +kernel
theorem dX1_fitsRows_30 : decode cX1_fitsRows 30 = .ok (.iinc 3 1, 3) := by decide +kernel
theorem dX1_fitsRows_33 : decode cX1_fitsRows 33 = .ok (.goto (-31), 3) := by decide +kernel
theorem dX1_fitsRows_36 : decode cX1_fitsRows 36 = .ok (.iconst 1, 1) := by decide +kernel
theorem dX1_fitsRows_37 : decode cX1_fitsRows 37 = .ok (.ireturn, 1) := by decide +kernel
theorem dX1_leastPair_0 : decode cX1_leastPair 0 = .ok (.iconst 0, 1) := by decide +kernel
theorem dX1_leastPair_1 : decode cX1_leastPair 1 = .ok (.istore_n 1, 1) := by decide +kernel
theorem dX1_leastPair_2 : decode cX1_leastPair 2 = .ok (.iload_n 1, 1) := by decide +kernel
theorem dX1_leastPair_3 : decode cX1_leastPair 3 = .ok (.sipush 1000, 3) := by decide +kernel
theorem dX1_leastPair_6 : decode cX1_leastPair 6 = .ok (.if_icmp .ge 20, 3) := by decide +kernel
theorem dX1_leastPair_9 : decode cX1_leastPair 9 = .ok (.aload_n 0, 1) := by decide +kernel
theorem dX1_leastPair_10 : decode cX1_leastPair 10 = .ok (.getfield 11, 3) := by decide +kernel
theorem dX1_leastPair_13 : decode cX1_leastPair 13 = .ok (.iload_n 1, 1) := by decide +kernel
theorem dX1_leastPair_14 : decode cX1_leastPair 14 = .ok (.baload, 1) := by decide +kernel
theorem dX1_leastPair_15 : decode cX1_leastPair 15 = .ok (.ifCond .eq 5, 3) := by decide +kernel
theorem dX1_leastPair_18 : decode cX1_leastPair 18 = .ok (.iload_n 1, 1) := by decide +kernel
theorem dX1_leastPair_19 : decode cX1_leastPair 19 = .ok (.ireturn, 1) := by decide +kernel
theorem dX1_leastPair_20 : decode cX1_leastPair 20 = .ok (.iinc 1 1, 3) := by decide +kernel
theorem dX1_leastPair_23 : decode cX1_leastPair 23 = .ok (.goto (-21), 3) := by decide +kernel
theorem dX1_leastPair_26 : decode cX1_leastPair 26 = .ok (.iconst (-1), 1) := by decide +kernel
theorem dX1_leastPair_27 : decode cX1_leastPair 27 = .ok (.ireturn, 1) := by decide +kernel
theorem dX1_bestThing_0 : decode cX1_bestThing 0 = .ok (.aload_n 0, 1) := by decide +kernel
theorem dX1_bestThing_1 : decode cX1_bestThing 1 = .ok (.getfield 19, 3) := by decide +kernel
theorem dX1_bestThing_4 : decode cX1_bestThing 4 = .ok (.iconst 2, 1) := by decide +kernel
theorem dX1_bestThing_5 : decode cX1_bestThing 5 = .ok (.if_icmp .ge 5, 3) := by decide +kernel
theorem dX1_bestThing_8 : decode cX1_bestThing 8 = .ok (.iconst (-1), 1) := by decide +kernel
theorem dX1_bestThing_9 : decode cX1_bestThing 9 = .ok (.ireturn, 1) := by decide +kernel
theorem dX1_bestThing_10 : decode cX1_bestThing 10 = .ok (.iconst (-1), 1) := by decide +kernel
theorem dX1_bestThing_11 : decode cX1_bestThing 11 = .ok (.istore_n 2, 1) := by decide +kernel
theorem dX1_bestThing_12 : decode cX1_bestThing 12 = .ok (.sipush 1001, 3) := by decide +kernel
theorem dX1_bestThing_15 : decode cX1_bestThing 15 = .ok (.istore_n 3, 1) := by decide +kernel
theorem dX1_bestThing_16 : decode cX1_bestThing 16 = .ok (.iconst 0, 1) := by decide +kernel
theorem dX1_bestThing_17 : decode cX1_bestThing 17 = .ok (.istore 4, 2) := by decide +kernel
theorem dX1_bestThing_19 : decode cX1_bestThing 19 = .ok (.iload 4, 2) := by decide +kernel
theorem dX1_bestThing_21 : decode cX1_bestThing 21 = .ok (.bipush 8, 2) := by decide +kernel
theorem dX1_bestThing_23 : decode cX1_bestThing 23 = .ok (.if_icmp .ge 30, 3) := by decide +kernel
theorem dX1_bestThing_26 : decode cX1_bestThing 26 = .ok (.aload_n 0, 1) := by decide +kernel
theorem dX1_bestThing_27 : decode cX1_bestThing 27 = .ok (.aload_n 1, 1) := by decide +kernel
theorem dX1_bestThing_28 : decode cX1_bestThing 28 = .ok (.iload 4, 2) := by decide +kernel
theorem dX1_bestThing_30 : decode cX1_bestThing 30 = .ok (.invokevirtual 49, 3) := by decide +kernel
theorem dX1_bestThing_33 : decode cX1_bestThing 33 = .ok (.istore 5, 2) := by decide +kernel
theorem dX1_bestThing_35 : decode cX1_bestThing 35 = .ok (.iload 5, 2) := by decide +kernel
theorem dX1_bestThing_37 : decode cX1_bestThing 37 = .ok (.iload_n 3, 1) := by decide +kernel
theorem dX1_bestThing_38 : decode cX1_bestThing 38 = .ok (.if_icmp .ge 9, 3) := by decide +kernel
theorem dX1_bestThing_41 : decode cX1_bestThing 41 = .ok (.iload 4, 2) := by decide +kernel
theorem dX1_bestThing_43 : decode cX1_bestThing 43 = .ok (.istore_n 2, 1) := by decide +kernel
theorem dX1_bestThing_44 : decode cX1_bestThing 44 = .ok (.iload 5, 2) := by decide +kernel
theorem dX1_bestThing_46 : decode cX1_bestThing 46 = .ok (.istore_n 3, 1) := by decide +kernel
theorem dX1_bestThing_47 : decode cX1_bestThing 47 = .ok (.iinc 4 1, 3) := by decide +kernel
theorem dX1_bestThing_50 : decode cX1_bestThing 50 = .ok (.goto (-31), 3) := by decide +kernel
theorem dX1_bestThing_53 : decode cX1_bestThing 53 = .ok (.iload_n 2, 1) := by decide +kernel
theorem dX1_bestThing_54 : decode cX1_bestThing 54 = .ok (.ireturn, 1) := by decide +kernel
theorem dX1_greatestPart_0 : decode cX1_greatestPart 0 = .ok (.iconst 0, 1) := by decide +kernel
theorem dX1_greatestPart_1 : decode cX1_greatestPart 1 = .ok (.istore_n 3, 1) := by decide +kernel
theorem dX1_greatestPart_2 : decode cX1_greatestPart 2 = .ok (.iload_n 3, 1) := by decide +kernel
theorem dX1_greatestPart_3 : decode cX1_greatestPart 3 = .ok (.sipush 1000, 3) := by decide +kernel
theorem dX1_greatestPart_6 : decode cX1_greatestPart 6 = .ok (.if_icmp .ge 16, 3) := by decide +kernel
theorem dX1_greatestPart_9 : decode cX1_greatestPart 9 = .ok (.aload_n 0, 1) := by decide +kernel
theorem dX1_greatestPart_10 : decode cX1_greatestPart 10 = .ok (.getfield 15, 3) := by decide +kernel
theorem dX1_greatestPart_13 : decode cX1_greatestPart 13 = .ok (.iload_n 3, 1) := by decide +kernel
theorem dX1_greatestPart_14 : decode cX1_greatestPart 14 = .ok (.iconst 0, 1) := by decide +kernel
theorem dX1_greatestPart_15 : decode cX1_greatestPart 15 = .ok (.iastore, 1) := by decide +kernel
theorem dX1_greatestPart_16 : decode cX1_greatestPart 16 = .ok (.iinc 3 1, 3) := by decide +kernel
theorem dX1_greatestPart_19 : decode cX1_greatestPart 19 = .ok (.goto (-17), 3) := by decide +kernel
theorem dX1_greatestPart_22 : decode cX1_greatestPart 22 = .ok (.iconst 0, 1) := by decide +kernel
theorem dX1_greatestPart_23 : decode cX1_greatestPart 23 = .ok (.istore_n 3, 1) := by decide +kernel
theorem dX1_greatestPart_24 : decode cX1_greatestPart 24 = .ok (.iconst 0, 1) := by decide +kernel
theorem dX1_greatestPart_25 : decode cX1_greatestPart 25 = .ok (.istore 4, 2) := by decide +kernel
theorem dX1_greatestPart_27 : decode cX1_greatestPart 27 = .ok (.iload 4, 2) := by decide +kernel
theorem dX1_greatestPart_29 : decode cX1_greatestPart 29 = .ok (.sipush 1000, 3) := by decide +kernel
theorem dX1_greatestPart_32 : decode cX1_greatestPart 32 = .ok (.if_icmp .ge 59, 3) := by decide +kernel
theorem dX1_greatestPart_35 : decode cX1_greatestPart 35 = .ok (.aload_n 1, 1) := by decide +kernel
theorem dX1_greatestPart_36 : decode cX1_greatestPart 36 = .ok (.iload 4, 2) := by decide +kernel
theorem dX1_greatestPart_38 : decode cX1_greatestPart 38 = .ok (.iload_n 2, 1) := by decide +kernel
theorem dX1_greatestPart_39 : decode cX1_greatestPart 39 = .ok (.invokestatic 42, 3) := by decide +kernel
theorem dX1_greatestPart_42 : decode cX1_greatestPart 42 = .ok (.istore 5, 2) := by decide +kernel
theorem dX1_greatestPart_44 : decode cX1_greatestPart 44 = .ok (.aload_n 0, 1) := by decide +kernel
theorem dX1_greatestPart_45 : decode cX1_greatestPart 45 = .ok (.getfield 11, 3) := by decide +kernel
theorem dX1_greatestPart_48 : decode cX1_greatestPart 48 = .ok (.iload 4, 2) := by decide +kernel
theorem dX1_greatestPart_50 : decode cX1_greatestPart 50 = .ok (.baload, 1) := by decide +kernel
theorem dX1_greatestPart_51 : decode cX1_greatestPart 51 = .ok (.ifCond .eq 34, 3) := by decide +kernel
theorem dX1_greatestPart_54 : decode cX1_greatestPart 54 = .ok (.iload 5, 2) := by decide +kernel
theorem dX1_greatestPart_56 : decode cX1_greatestPart 56 = .ok (.sipush 1000, 3) := by decide +kernel
theorem dX1_greatestPart_59 : decode cX1_greatestPart 59 = .ok (.if_icmp .ge 26, 3) := by decide +kernel
theorem dX1_greatestPart_62 : decode cX1_greatestPart 62 = .ok (.aload_n 0, 1) := by decide +kernel
theorem dX1_greatestPart_63 : decode cX1_greatestPart 63 = .ok (.getfield 15, 3) := by decide +kernel
theorem dX1_greatestPart_66 : decode cX1_greatestPart 66 = .ok (.iload 5, 2) := by decide +kernel
theorem dX1_greatestPart_68 : decode cX1_greatestPart 68 = .ok (.dup2, 1) := by decide +kernel
theorem dX1_greatestPart_69 : decode cX1_greatestPart 69 = .ok (.iaload, 1) := by decide +kernel
theorem dX1_greatestPart_70 : decode cX1_greatestPart 70 = .ok (.iconst 1, 1) := by decide +kernel
theorem dX1_greatestPart_71 : decode cX1_greatestPart 71 = .ok (.iadd, 1) := by decide +kernel
theorem dX1_greatestPart_72 : decode cX1_greatestPart 72 = .ok (.iastore, 1) := by decide +kernel
theorem dX1_greatestPart_73 : decode cX1_greatestPart 73 = .ok (.iload_n 3, 1) := by decide +kernel
theorem dX1_greatestPart_74 : decode cX1_greatestPart 74 = .ok (.aload_n 0, 1) := by decide +kernel
theorem dX1_greatestPart_75 : decode cX1_greatestPart 75 = .ok (.getfield 15, 3) := by decide +kernel
theorem dX1_greatestPart_78 : decode cX1_greatestPart 78 = .ok (.iload 5, 2) := by decide +kernel
theorem dX1_greatestPart_80 : decode cX1_greatestPart 80 = .ok (.iaload, 1) := by decide +kernel
theorem dX1_greatestPart_81 : decode cX1_greatestPart 81 = .ok (.invokestatic 53, 3) := by decide +kernel
theorem dX1_greatestPart_84 : decode cX1_greatestPart 84 = .ok (.istore_n 3, 1) := by decide +kernel
theorem dX1_greatestPart_85 : decode cX1_greatestPart 85 = .ok (.iinc 4 1, 3) := by decide +kernel
theorem dX1_greatestPart_88 : decode cX1_greatestPart 88 = .ok (.goto (-61), 3) := by decide +kernel
theorem dX1_greatestPart_91 : decode cX1_greatestPart 91 = .ok (.iload_n 3, 1) := by decide +kernel
theorem dX1_greatestPart_92 : decode cX1_greatestPart 92 = .ok (.ireturn, 1) := by decide +kernel
theorem dX2_init_0 : decode cX2_init 0 = .ok (.aload_n 0, 1) := by decide +kernel
theorem dX2_init_1 : decode cX2_init 1 = .ok (.invokespecial 3, 3) := by decide +kernel
theorem dX2_init_4 : decode cX2_init 4 = .ok (.aload_n 0, 1) := by decide +kernel
theorem dX2_init_5 : decode cX2_init 5 = .ok (.sipush 1024, 3) := by decide +kernel
theorem dX2_init_8 : decode cX2_init 8 = .ok (.newarray .int, 2) := by decide +kernel
theorem dX2_init_10 : decode cX2_init 10 = .ok (.putfield 11, 3) := by decide +kernel
theorem dX2_init_13 : decode cX2_init 13 = .ok (.aload_n 0, 1) := by decide +kernel
theorem dX2_init_14 : decode cX2_init 14 = .ok (.sipush 1024, 3) := by decide +kernel
theorem dX2_init_17 : decode cX2_init 17 = .ok (.newarray .int, 2) := by decide +kernel
theorem dX2_init_19 : decode cX2_init 19 = .ok (.putfield 15, 3) := by decide +kernel
theorem dX2_init_22 : decode cX2_init 22 = .ok (.aload_n 0, 1) := by decide +kernel
theorem dX2_init_23 : decode cX2_init 23 = .ok (.iconst 0, 1) := by decide +kernel
theorem dX2_init_24 : decode cX2_init 24 = .ok (.putfield 18, 3) := by decide +kernel
theorem dX2_init_27 : decode cX2_init 27 = .ok (.return_, 1) := by decide +kernel
theorem dX2_isMovable_0 : decode cX2_isMovable 0 = .ok (.iload_n 2, 1) := by decide +kernel
theorem dX2_isMovable_1 : decode cX2_isMovable 1 = .ok (.ifCond .ne 5, 3) := by decide +kernel
theorem dX2_isMovable_4 : decode cX2_isMovable 4 = .ok (.iconst 1, 1) := by decide +kernel
theorem dX2_isMovable_5 : decode cX2_isMovable 5 = .ok (.ireturn, 1) := by decide +kernel
theorem dX2_isMovable_6 : decode cX2_isMovable 6 = .ok (.iload_n 0, 1) := by decide +kernel
theorem dX2_isMovable_7 : decode cX2_isMovable 7 = .ok (.iconst 1, 1) := by decide +kernel
theorem dX2_isMovable_8 : decode cX2_isMovable 8 = .ok (.iload_n 2, 1) := by decide +kernel
theorem dX2_isMovable_9 : decode cX2_isMovable 9 = .ok (.ishl, 1) := by decide +kernel
theorem dX2_isMovable_10 : decode cX2_isMovable 10 = .ok (.iconst 1, 1) := by decide +kernel
theorem dX2_isMovable_11 : decode cX2_isMovable 11 = .ok (.isub, 1) := by decide +kernel
theorem dX2_isMovable_12 : decode cX2_isMovable 12 = .ok (.iand, 1) := by decide +kernel
theorem dX2_isMovable_13 : decode cX2_isMovable 13 = .ok (.istore_n 3, 1) := by decide +kernel
theorem dX2_isMovable_14 : decode cX2_isMovable 14 = .ok (.iload_n 3, 1) := by decide +kernel
theorem dX2_isMovable_15 : decode cX2_isMovable 15 = .ok (.iconst 1, 1) := by decide +kernel
theorem dX2_isMovable_16 : decode cX2_isMovable 16 = .ok (.iload_n 2, 1) := by decide +kernel
theorem dX2_isMovable_17 : decode cX2_isMovable 17 = .ok (.iconst 1, 1) := by decide +kernel
theorem dX2_isMovable_18 : decode cX2_isMovable 18 = .ok (.isub, 1) := by decide +kernel
theorem dX2_isMovable_19 : decode cX2_isMovable 19 = .ok (.ishl, 1) := by decide +kernel
theorem dX2_isMovable_20 : decode cX2_isMovable 20 = .ok (.if_icmp .ne 15, 3) := by decide +kernel
theorem dX2_isMovable_23 : decode cX2_isMovable 23 = .ok (.iload_n 1, 1) := by decide +kernel
theorem dX2_isMovable_24 : decode cX2_isMovable 24 = .ok (.iload_n 2, 1) := by decide +kernel
theorem dX2_isMovable_25 : decode cX2_isMovable 25 = .ok (.ishr, 1) := by decide +kernel
theorem dX2_isMovable_26 : decode cX2_isMovable 26 = .ok (.iconst 1, 1) := by decide +kernel
theorem dX2_isMovable_27 : decode cX2_isMovable 27 = .ok (.iand, 1) := by decide +kernel
theorem dX2_isMovable_28 : decode cX2_isMovable 28 = .ok (.ifCond .eq 7, 3) := by decide +kernel
theorem dX2_isMovable_31 : decode cX2_isMovable 31 = .ok (.iconst 1, 1) := by decide +kernel
theorem dX2_isMovable_32 : decode cX2_isMovable 32 = .ok (.goto 4, 3) := by decide +kernel
theorem dX2_isMovable_35 : decode cX2_isMovable 35 = .ok (.iconst 0, 1) := by decide +kernel
theorem dX2_isMovable_36 : decode cX2_isMovable 36 = .ok (.ireturn, 1) := by decide +kernel
theorem dX2_isMove_0 : decode cX2_isMove 0 = .ok (.iload_n 0, 1) := by decide +kernel
theorem dX2_isMove_1 : decode cX2_isMove 1 = .ok (.bipush 31, 2) := by decide +kernel
theorem dX2_isMove_3 : decode cX2_isMove 3 = .ok (.iand, 1) := by decide +kernel
theorem dX2_isMove_4 : decode cX2_isMove 4 = .ok (.istore_n 2, 1) := by decide +kernel
theorem dX2_isMove_5 : decode cX2_isMove 5 = .ok (.iload_n 0, 1) := by decide +kernel
theorem dX2_isMove_6 : decode cX2_isMove 6 = .ok (.iconst 5, 1) := by decide +kernel
theorem dX2_isMove_7 : decode cX2_isMove 7 = .ok (.ishr, 1) := by decide +kernel
theorem dX2_isMove_8 : decode cX2_isMove 8 = .ok (.istore_n 3, 1) := by decide +kernel
theorem dX2_isMove_9 : decode cX2_isMove 9 = .ok (.iload_n 1, 1) := by decide +kernel
theorem dX2_isMove_10 : decode cX2_isMove 10 = .ok (.iconst 5, 1) := by decide +kernel
theorem dX2_isMove_11 : decode cX2_isMove 11 = .ok (.if_icmp .ge 12, 3) := by decide +kernel
theorem dX2_isMove_14 : decode cX2_isMove 14 = .ok (.iload_n 2, 1) := by decide +kernel
theorem dX2_isMove_15 : decode cX2_isMove 15 = .ok (.iload_n 3, 1) := by decide +kernel
theorem dX2_isMove_16 : decode cX2_isMove 16 = .ok (.iload_n 1, 1) := by decide +kernel
theorem dX2_isMove_17 : decode cX2_isMove 17 = .ok (.invokestatic 22, 3) := by decide +kernel
theorem dX2_isMove_20 : decode cX2_isMove 20 = .ok (.goto 11, 3) := by decide +kernel
theorem dX2_isMove_23 : decode cX2_isMove 23 = .ok (.iload_n 3, 1) := by decide +kernel
theorem dX2_isMove_24 : decode cX2_isMove 24 = .ok (.iload_n 2, 1) := by decide +kernel
theorem dX2_isMove_25 : decode cX2_isMove 25 = .ok (.iload_n 1, 1) := by decide +kernel
theorem dX2_isMove_26 : decode cX2_isMove 26 = .ok (.iconst 5, 1) := by decide +kernel
theorem dX2_isMove_27 : decode cX2_isMove 27 = .ok (.isub, 1) := by decide +kernel
theorem dX2_isMove_28 : decode cX2_isMove 28 = .ok (.invokestatic 22, 3) := by decide +kernel
theorem dX2_isMove_31 : decode cX2_isMove 31 = .ok (.ireturn, 1) := by decide +kernel
theorem dX2_movesNow_0 : decode cX2_movesNow 0 = .ok (.iconst 0, 1) := by decide +kernel
theorem dX2_movesNow_1 : decode cX2_movesNow 1 = .ok (.istore_n 1, 1) := by decide +kernel
theorem dX2_movesNow_2 : decode cX2_movesNow 2 = .ok (.iconst 0, 1) := by decide +kernel
theorem dX2_movesNow_3 : decode cX2_movesNow 3 = .ok (.istore_n 2, 1) := by decide +kernel
theorem dX2_movesNow_4 : decode cX2_movesNow 4 = .ok (.iload_n 2, 1) := by decide +kernel
theorem dX2_movesNow_5 : decode cX2_movesNow 5 = .ok (.bipush 10, 2) := by decide +kernel
theorem dX2_movesNow_7 : decode cX2_movesNow 7 = .ok (.if_icmp .ge 23, 3) := by decide +kernel
theorem dX2_movesNow_10 : decode cX2_movesNow 10 = .ok (.iload_n 0, 1) := by decide +kernel
theorem dX2_movesNow_11 : decode cX2_movesNow 11 = .ok (.iload_n 2, 1) := by decide +kernel
theorem dX2_movesNow_12 : decode cX2_movesNow 12 = .ok (.invokestatic 26, 3) := by decide +kernel
theorem dX2_movesNow_15 : decode cX2_movesNow 15 = .ok (.ifCond .eq 9, 3) := by decide +kernel
theorem dX2_movesNow_18 : decode cX2_movesNow 18 = .ok (.iload_n 1, 1) := by decide +kernel
theorem dX2_movesNow_19 : decode cX2_movesNow 19 = .ok (.iconst 1, 1) := by decide +kernel
theorem dX2_movesNow_20 : decode cX2_movesNow 20 = .ok (.iload_n 2, 1) := by decide +kernel
theorem dX2_movesNow_21 : decode cX2_movesNow 21 = .ok (.ishl, 1) := by decide +kernel
theorem dX2_movesNow_22 : decode cX2_movesNow 22 = .ok (.ior, 1) := by decide +kernel
theorem dX2_movesNow_23 : decode cX2_movesNow 23 = .ok (.istore_n 1, 1) := by decide +kernel
theorem dX2_movesNow_24 : decode cX2_movesNow 24 = .ok (.iinc 2 1, 3) := by decide +kernel
theorem dX2_movesNow_27 : decode cX2_movesNow 27 = .ok (.goto (-23), 3) := by decide +kernel
theorem dX2_movesNow_30 : decode cX2_movesNow 30 = .ok (.iload_n 1, 1) := by decide +kernel
theorem dX2_movesNow_31 : decode cX2_movesNow 31 = .ok (.ireturn, 1) := by decide +kernel
theorem dX2_fewest_0 : decode cX2_fewest 0 = .ok (.aload_n 0, 1) := by decide +kernel
theorem dX2_fewest_1 : decode cX2_fewest 1 = .ok (.invokevirtual 30, 3) := by decide +kernel
theorem dX2_fewest_4 : decode cX2_fewest 4 = .ok (.aload_n 0, 1) := by decide +kernel
theorem dX2_fewest_5 : decode cX2_fewest 5 = .ok (.getfield 11, 3) := by decide +kernel
theorem dX2_fewest_8 : decode cX2_fewest 8 = .ok (.iload_n 1, 1) := by decide +kernel
theorem dX2_fewest_9 : decode cX2_fewest 9 = .ok (.sipush 1023, 3) := by decide +kernel
theorem dX2_fewest_12 : decode cX2_fewest 12 = .ok (.iand, 1) := by decide +kernel
theorem dX2_fewest_13 : decode cX2_fewest 13 = .ok (.iaload, 1) := by decide +kernel
theorem dX2_fewest_14 : decode cX2_fewest 14 = .ok (.ireturn, 1) := by decide +kernel
theorem dX2_leastFirst_0 : decode cX2_leastFirst 0 = .ok (.aload_n 0, 1) := by decide +kernel
theorem dX2_leastFirst_1 : decode cX2_leastFirst 1 = .ok (.iload_n 1, 1) := by decide +kernel
theorem dX2_leastFirst_2 : decode cX2_leastFirst 2 = .ok (.invokevirtual 33, 3) := by decide +kernel
theorem dX2_leastFirst_5 : decode cX2_leastFirst 5 = .ok (.istore_n 2, 1) := by decide +kernel
theorem dX2_leastFirst_6 : decode cX2_leastFirst 6 = .ok (.iconst 0, 1) := by decide +kernel
theorem dX2_leastFirst_7 : decode cX2_leastFirst 7 = .ok (.istore_n 3, 1) := by decide +kernel
theorem dX2_leastFirst_8 : decode cX2_leastFirst 8 = .ok (.iload_n 2, 1) := by decide +kernel
theorem dX2_leastFirst_9 : decode cX2_leastFirst 9 = .ok (.ifCond .le 40, 3) := by decide +kernel
theorem dX2_leastFirst_12 : decode cX2_leastFirst 12 = .ok (.iload_n 3, 1) := by decide +kernel
theorem dX2_leastFirst_13 : decode cX2_leastFirst 13 = .ok (.bipush 10, 2) := by decide +kernel
theorem dX2_leastFirst_15 : decode cX2_leastFirst 15 = .ok (.if_icmp .ge 34, 3) := by decide +kernel
theorem dX2_leastFirst_18 : decode cX2_leastFirst 18 = .ok (.iload_n 1, 1) := by decide +kernel
theorem dX2_leastFirst_19 : decode cX2_leastFirst 19 = .ok (.iload_n 3, 1) := by decide +kernel
theorem dX2_leastFirst_20 : decode cX2_leastFirst 20 = .ok (.invokestatic 26, 3) := by decide +kernel
theorem dX2_leastFirst_23 : decode cX2_leastFirst 23 = .ok (.ifCond .eq 20, 3) := by decide +kernel
theorem dX2_leastFirst_26 : decode cX2_leastFirst 26 = .ok (.aload_n 0, 1) := by decide +kernel
theorem dX2_leastFirst_27 : decode cX2_leastFirst 27 = .ok (.iload_n 1, 1) := by decide +kernel
theorem dX2_leastFirst_28 : decode cX2_leastFirst 28 = .ok (.iconst 1, 1) := by decide +kernel
theorem dX2_leastFirst_29 : decode cX2_leastFirst 29 = .ok (.iload_n 3, 1) := by decide +kernel
theorem dX2_leastFirst_30 : decode cX2_leastFirst 30 = .ok (.ishl, 1) := by decide +kernel
theorem dX2_leastFirst_31 : decode cX2_leastFirst 31 = .ok (.ixor, 1) := by decide +kernel
theorem dX2_leastFirst_32 : decode cX2_leastFirst 32 = .ok (.invokevirtual 33, 3) := by decide +kernel
theorem dX2_leastFirst_35 : decode cX2_leastFirst 35 = .ok (.iload_n 2, 1) := by decide +kernel
theorem dX2_leastFirst_36 : decode cX2_leastFirst 36 = .ok (.iconst 1, 1) := by decide +kernel
theorem dX2_leastFirst_37 : decode cX2_leastFirst 37 = .ok (.isub, 1) := by decide +kernel
theorem dX2_leastFirst_38 : decode cX2_leastFirst 38 = .ok (.if_icmp .ne 5, 3) := by decide +kernel
theorem dX2_leastFirst_41 : decode cX2_leastFirst 41 = .ok (.iload_n 3, 1) := by decide +kernel
theorem dX2_leastFirst_42 : decode cX2_leastFirst 42 = .ok (.ireturn, 1) := by decide +kernel
theorem dX2_leastFirst_43 : decode cX2_leastFirst 43 = .ok (.iinc 3 1, 3) := by decide +kernel
theorem dX2_leastFirst_46 : decode cX2_leastFirst 46 = .ok (.goto (-38), 3) := by decide +kernel
theorem dX2_leastFirst_49 : decode cX2_leastFirst 49 = .ok (.iconst (-1), 1) := by decide +kernel
theorem dX2_leastFirst_50 : decode cX2_leastFirst 50 = .ok (.ireturn, 1) := by decide +kernel
theorem dX2_search_0 : decode cX2_search 0 = .ok (.aload_n 0, 1) := by decide +kernel
theorem dX2_search_1 : decode cX2_search 1 = .ok (.getfield 18, 3) := by decide +kernel
theorem dX2_search_4 : decode cX2_search 4 = .ok (.ifCond .eq 4, 3) := by decide +kernel
theorem dX2_search_7 : decode cX2_search 7 = .ok (.return_, 1) := by decide +kernel
theorem dX2_search_8 : decode cX2_search 8 = .ok (.aload_n 0, 1) := by decide +kernel
theorem dX2_search_9 : decode cX2_search 9 = .ok (.iconst 1, 1) := by decide +kernel
theorem dX2_search_10 : decode cX2_search 10 = .ok (.putfield 18, 3) := by decide +kernel
theorem dX2_search_13 : decode cX2_search 13 = .ok (.iconst 0, 1) := by decide +kernel
theorem dX2_search_14 : decode cX2_search 14 = .ok (.istore_n 1, 1) := by decide +kernel
theorem dX2_search_15 : decode cX2_search 15 = .ok (.iconst 0, 1) := by decide +kernel
theorem dX2_search_16 : decode cX2_search 16 = .ok (.istore_n 2, 1) := by decide +kernel
theorem dX2_search_17 : decode cX2_search 17 = .ok (.iload_n 2, 1) := by decide +kernel
theorem dX2_search_18 : decode cX2_search 18 = .ok (.sipush 1024, 3) := by decide +kernel
theorem dX2_search_21 : decode cX2_search 21 = .ok (.if_icmp .ge 57, 3) := by decide +kernel
theorem dX2_search_24 : decode cX2_search 24 = .ok (.iload_n 2, 1) := by decide +kernel
theorem dX2_search_25 : decode cX2_search 25 = .ok (.bipush 31, 2) := by decide +kernel
theorem dX2_search_27 : decode cX2_search 27 = .ok (.iand, 1) := by decide +kernel
theorem dX2_search_28 : decode cX2_search 28 = .ok (.ifCond .eq 9, 3) := by decide +kernel
theorem dX2_search_31 : decode cX2_search 31 = .ok (.iload_n 2, 1) := by decide +kernel
theorem dX2_search_32 : decode cX2_search 32 = .ok (.iconst 5, 1) := by decide +kernel
theorem dX2_search_33 : decode cX2_search 33 = .ok (.ishr, 1) := by decide +kernel
theorem dX2_search_34 : decode cX2_search 34 = .ok (.ifCond .ne 7, 3) := by decide +kernel
theorem dX2_search_37 : decode cX2_search 37 = .ok (.iconst 1, 1) := by decide +kernel
theorem dX2_search_38 : decode cX2_search 38 = .ok (.goto 4, 3) := by decide +kernel
theorem dX2_search_41 : decode cX2_search 41 = .ok (.iconst 0, 1) := by decide +kernel
theorem dX2_search_42 : decode cX2_search 42 = .ok (.istore_n 3, 1) := by decide +kernel
theorem dX2_search_43 : decode cX2_search 43 = .ok (.aload_n 0, 1) := by decide +kernel
theorem dX2_search_44 : decode cX2_search 44 = .ok (.getfield 11, 3) := by decide +kernel
theorem dX2_search_47 : decode cX2_search 47 = .ok (.iload_n 2, 1) := by decide +kernel
theorem dX2_search_48 : decode cX2_search 48 = .ok (.iload_n 3, 1) := by decide +kernel
theorem dX2_search_49 : decode cX2_search 49 = .ok (.ifCond .eq 7, 3) := by decide +kernel
theorem dX2_search_52 : decode cX2_search 52 = .ok (.iconst 0, 1) := by decide +kernel
theorem dX2_search_53 : decode cX2_search 53 = .ok (.goto 4, 3) := by decide +kernel
theorem dX2_search_56 : decode cX2_search 56 = .ok (.iconst (-1), 1) := by decide +kernel
theorem dX2_search_57 : decode cX2_search 57 = .ok (.iastore, 1) := by decide +kernel
theorem dX2_search_58 : decode cX2_search 58 = .ok (.iload_n 3, 1) := by decide +kernel
theorem dX2_search_59 : decode cX2_search 59 = .ok (.ifCond .eq 13, 3) := by decide +kernel
theorem dX2_search_62 : decode cX2_search 62 = .ok (.aload_n 0, 1) := by decide +kernel
theorem dX2_search_63 : decode cX2_search 63 = .ok (.getfield 15, 3) := by decide +kernel
theorem dX2_search_66 : decode cX2_search 66 = .ok (.iload_n 1, 1) := by decide +kernel
theorem dX2_search_67 : decode cX2_search 67 = .ok (.iload_n 2, 1) := by decide +kernel
theorem dX2_search_68 : decode cX2_search 68 = .ok (.iastore, 1) := by decide +kernel
theorem dX2_search_69 : decode cX2_search 69 = .ok (.iinc 1 1, 3) := by decide +kernel
theorem dX2_search_72 : decode cX2_search 72 = .ok (.iinc 2 1, 3) := by decide +kernel
theorem dX2_search_75 : decode cX2_search 75 = .ok (.goto (-58), 3) := by decide +kernel
theorem dX2_search_78 : decode cX2_search 78 = .ok (.iconst 0, 1) := by decide +kernel
theorem dX2_search_79 : decode cX2_search 79 = .ok (.istore_n 2, 1) := by decide +kernel
theorem dX2_search_80 : decode cX2_search 80 = .ok (.iload_n 2, 1) := by decide +kernel
theorem dX2_search_81 : decode cX2_search 81 = .ok (.iload_n 1, 1) := by decide +kernel
theorem dX2_search_82 : decode cX2_search 82 = .ok (.if_icmp .ge 28, 3) := by decide +kernel
theorem dX2_search_85 : decode cX2_search 85 = .ok (.iload_n 2, 1) := by decide +kernel
theorem dX2_search_86 : decode cX2_search 86 = .ok (.sipush 1024, 3) := by decide +kernel
theorem dX2_search_89 : decode cX2_search 89 = .ok (.if_icmp .ge 21, 3) := by decide +kernel
theorem dX2_search_92 : decode cX2_search 92 = .ok (.aload_n 0, 1) := by decide +kernel
theorem dX2_search_93 : decode cX2_search 93 = .ok (.aload_n 0, 1) := by decide +kernel
theorem dX2_search_94 : decode cX2_search 94 = .ok (.getfield 15, 3) := by decide +kernel
theorem dX2_search_97 : decode cX2_search 97 = .ok (.iload_n 2, 1) := by decide +kernel
theorem dX2_search_98 : decode cX2_search 98 = .ok (.iaload, 1) := by decide +kernel
theorem dX2_search_99 : decode cX2_search 99 = .ok (.iload_n 1, 1) := by decide +kernel
theorem dX2_search_100 : decode cX2_search 100 = .ok (.invokevirtual 37, 3) := by decide +kernel
theorem dX2_search_103 : decode cX2_search 103 = .ok (.istore_n 1, 1) := by decide +kernel
theorem dX2_search_104 : decode cX2_search 104 = .ok (.iinc 2 1, 3) := by decide +kernel
theorem dX2_search_107 : decode cX2_search 107 = .ok (.goto (-27), 3) := by decide +kernel
theorem dX2_search_110 : decode cX2_search 110 = .ok (.return_, 1) := by decide +kernel
theorem dX2_reachFrom_0 : decode cX2_reachFrom 0 = .ok (.iload_n 2, 1) := by decide +kernel
theorem dX2_reachFrom_1 : decode cX2_reachFrom 1 = .ok (.istore_n 3, 1) := by decide +kernel
theorem dX2_reachFrom_2 : decode cX2_reachFrom 2 = .ok (.iconst 0, 1) := by decide +kernel
theorem dX2_reachFrom_3 : decode cX2_reachFrom 3 = .ok (.istore 4, 2) := by decide +kernel
theorem dX2_reachFrom_5 : decode cX2_reachFrom 5 = .ok (.iload 4, 2) := by decide +kernel
theorem dX2_reachFrom_7 : decode cX2_reachFrom 7 = .ok (.bipush 10, 2) := by decide +kernel
theorem dX2_reachFrom_9 : decode cX2_reachFrom 9 = .ok (.if_icmp .ge 70, 3) := by decide +kernel
theorem dX2_reachFrom_12 : decode cX2_reachFrom 12 = .ok (.iload_n 1, 1) := by decide +kernel
theorem dX2_reachFrom_13 : decode cX2_reachFrom 13 = .ok (.iconst 1, 1) := by decide +kernel
theorem dX2_reachFrom_14 : decode cX2_reachFrom 14 = .ok (.iload 4, 2) := by decide +kernel
theorem dX2_reachFrom_16 : decode cX2_reachFrom 16 = .ok (.ishl, 1) := by decide +kernel
theorem dX2_reachFrom_17 : decode cX2_reachFrom 17 = .ok (.ixor, 1) := by decide +kernel
theorem dX2_reachFrom_18 : decode cX2_reachFrom 18 = .ok (.istore 5, 2) := by decide +kernel
theorem dX2_reachFrom_20 : decode cX2_reachFrom 20 = .ok (.aload_n 0, 1) := by decide +kernel
theorem dX2_reachFrom_21 : decode cX2_reachFrom 21 = .ok (.getfield 11, 3) := by decide +kernel
theorem dX2_reachFrom_24 : decode cX2_reachFrom 24 = .ok (.iload 5, 2) := by decide +kernel
theorem dX2_reachFrom_26 : decode cX2_reachFrom 26 = .ok (.iaload, 1) := by decide +kernel
theorem dX2_reachFrom_27 : decode cX2_reachFrom 27 = .ok (.iconst (-1), 1) := by decide +kernel
theorem dX2_reachFrom_28 : decode cX2_reachFrom 28 = .ok (.if_icmp .ne 45, 3) := by decide +kernel
theorem dX2_reachFrom_31 : decode cX2_reachFrom 31 = .ok (.iload_n 1, 1) := by decide +kernel
theorem dX2_reachFrom_32 : decode cX2_reachFrom 32 = .ok (.iload 4, 2) := by decide +kernel
theorem dX2_reachFrom_34 : decode cX2_reachFrom 34 = .ok (.invokestatic 26, 3) := by decide +kernel
theorem dX2_reachFrom_37 : decode cX2_reachFrom 37 = .ok (.ifCond .eq 36, 3) := by decide +kernel
theorem dX2_reachFrom_40 : decode cX2_reachFrom 40 = .ok (.iload_n 3, 1) := by decide +kernel
theorem dX2_reachFrom_41 : decode cX2_reachFrom 41 = .ok (.sipush 1024, 3) := by decide +kernel
theorem dX2_reachFrom_44 : decode cX2_reachFrom 44 = .ok (.if_icmp .ge 29, 3) := by decide +kernel
theorem dX2_reachFrom_47 : decode cX2_reachFrom 47 = .ok (.aload_n 0, 1) := by decide +kernel
theorem dX2_reachFrom_48 : decode cX2_reachFrom 48 = .ok (.getfield 11, 3) := by decide +kernel
theorem dX2_reachFrom_51 : decode cX2_reachFrom 51 = .ok (.iload 5, 2) := by decide +kernel
theorem dX2_reachFrom_53 : decode cX2_reachFrom 53 = .ok (.aload_n 0, 1) := by decide +kernel
theorem dX2_reachFrom_54 : decode cX2_reachFrom 54 = .ok (.getfield 11, 3) := by decide +kernel
theorem dX2_reachFrom_57 : decode cX2_reachFrom 57 = .ok (.iload_n 1, 1) := by decide +kernel
theorem dX2_reachFrom_58 : decode cX2_reachFrom 58 = .ok (.iaload, 1) := by decide +kernel
theorem dX2_reachFrom_59 : decode cX2_reachFrom 59 = .ok (.iconst 1, 1) := by decide +kernel
theorem dX2_reachFrom_60 : decode cX2_reachFrom 60 = .ok (.iadd, 1) := by decide +kernel
theorem dX2_reachFrom_61 : decode cX2_reachFrom 61 = .ok (.iastore, 1) := by decide +kernel
theorem dX2_reachFrom_62 : decode cX2_reachFrom 62 = .ok (.aload_n 0, 1) := by decide +kernel
theorem dX2_reachFrom_63 : decode cX2_reachFrom 63 = .ok (.getfield 15, 3) := by decide +kernel
theorem dX2_reachFrom_66 : decode cX2_reachFrom 66 = .ok (.iload_n 3, 1) := by decide +kernel
theorem dX2_reachFrom_67 : decode cX2_reachFrom 67 = .ok (.iload 5, 2) := by decide +kernel
theorem dX2_reachFrom_69 : decode cX2_reachFrom 69 = .ok (.iastore, 1) := by decide +kernel
theorem dX2_reachFrom_70 : decode cX2_reachFrom 70 = .ok (.iinc 3 1, 3) := by decide +kernel
theorem dX2_reachFrom_73 : decode cX2_reachFrom 73 = .ok (.iinc 4 1, 3) := by decide +kernel
theorem dX2_reachFrom_76 : decode cX2_reachFrom 76 = .ok (.goto (-71), 3) := by decide +kernel
theorem dX2_reachFrom_79 : decode cX2_reachFrom 79 = .ok (.iload_n 3, 1) := by decide +kernel
theorem dX2_reachFrom_80 : decode cX2_reachFrom 80 = .ok (.ireturn, 1) := by decide +kernel
theorem dX3_init_0 : decode cX3_init 0 = .ok (.aload_n 0, 1) := by decide +kernel
theorem dX3_init_1 : decode cX3_init 1 = .ok (.invokespecial 5, 3) := by decide +kernel
theorem dX3_init_4 : decode cX3_init 4 = .ok (.aload_n 0, 1) := by decide +kernel
theorem dX3_init_5 : decode cX3_init 5 = .ok (.bipush 12, 2) := by decide +kernel
theorem dX3_init_7 : decode cX3_init 7 = .ok (.newarray .boolean, 2) := by decide +kernel
theorem dX3_init_9 : decode cX3_init 9 = .ok (.putfield 11, 3) := by decide +kernel
theorem dX3_init_12 : decode cX3_init 12 = .ok (.aload_n 0, 1) := by decide +kernel
theorem dX3_init_13 : decode cX3_init 13 = .ok (.bipush 12, 2) := by decide +kernel
theorem dX3_init_15 : decode cX3_init 15 = .ok (.newarray .int, 2) := by decide +kernel
theorem dX3_init_17 : decode cX3_init 17 = .ok (.putfield 17, 3) := by decide +kernel
theorem dX3_init_20 : decode cX3_init 20 = .ok (.aload_n 0, 1) := by decide +kernel
theorem dX3_init_21 : decode cX3_init 21 = .ok (.bipush 12, 2) := by decide +kernel
theorem dX3_init_23 : decode cX3_init 23 = .ok (.newarray .int, 2) := by decide +kernel
theorem dX3_init_25 : decode cX3_init 25 = .ok (.putfield 21, 3) := by decide +kernel
theorem dX3_init_28 : decode cX3_init 28 = .ok (.aload_n 0, 1) := by decide +kernel
theorem dX3_init_29 : decode cX3_init 29 = .ok (.sipush 400, 3) := by decide +kernel
theorem dX3_init_32 : decode cX3_init 32 = .ok (.newarray .int, 2) := by decide +kernel
theorem dX3_init_34 : decode cX3_init 34 = .ok (.putfield 24, 3) := by decide +kernel
theorem dX3_init_37 : decode cX3_init 37 = .ok (.aload_n 0, 1) := by decide +kernel
theorem dX3_init_38 : decode cX3_init 38 = .ok (.bipush 11, 2) := by decide +kernel
theorem dX3_init_40 : decode cX3_init 40 = .ok (.newarray .int, 2) := by decide +kernel
theorem dX3_init_42 : decode cX3_init 42 = .ok (.putfield 27, 3) := by decide +kernel
theorem dX3_init_45 : decode cX3_init 45 = .ok (.aload_n 0, 1) := by decide +kernel
theorem dX3_init_46 : decode cX3_init 46 = .ok (.bipush 32, 2) := by decide +kernel
theorem dX3_init_48 : decode cX3_init 48 = .ok (.newarray .int, 2) := by decide +kernel
theorem dX3_init_50 : decode cX3_init 50 = .ok (.putfield 30, 3) := by decide +kernel
theorem dX3_init_53 : decode cX3_init 53 = .ok (.aload_n 0, 1) := by decide +kernel
theorem dX3_init_54 : decode cX3_init 54 = .ok (.iconst (-1), 1) := by decide +kernel
theorem dX3_init_55 : decode cX3_init 55 = .ok (.putfield 33, 3) := by decide +kernel
theorem dX3_init_58 : decode cX3_init 58 = .ok (.aload_n 0, 1) := by decide +kernel
theorem dX3_init_59 : decode cX3_init 59 = .ok (.iconst 0, 1) := by decide +kernel
theorem dX3_init_60 : decode cX3_init 60 = .ok (.putfield 37, 3) := by decide +kernel
theorem dX3_init_63 : decode cX3_init 63 = .ok (.return_, 1) := by decide +kernel
theorem dX3_copyFrom_0 : decode cX3_copyFrom 0 = .ok (.iconst 0, 1) := by decide +kernel
theorem dX3_copyFrom_1 : decode cX3_copyFrom 1 = .ok (.istore_n 2, 1) := by decide +kernel
theorem dX3_copyFrom_2 : decode cX3_copyFrom 2 = .ok (.iload_n 2, 1) := by decide +kernel
theorem dX3_copyFrom_3 : decode cX3_copyFrom 3 = .ok (.bipush 12, 2) := by decide +kernel
theorem dX3_copyFrom_5 : decode cX3_copyFrom 5 = .ok (.if_icmp .ge 45, 3) := by decide +kernel
theorem dX3_copyFrom_8 : decode cX3_copyFrom 8 = .ok (.aload_n 0, 1) := by decide +kernel
theorem dX3_copyFrom_9 : decode cX3_copyFrom 9 = .ok (.getfield 11, 3) := by decide +kernel
theorem dX3_copyFrom_12 : decode cX3_copyFrom 12 = .ok (.iload_n 2, 1) := by decide +kernel
theorem dX3_copyFrom_13 : decode cX3_copyFrom 13 = .ok (.aload_n 1, 1) := by decide +kernel
theorem dX3_copyFrom_14 : decode cX3_copyFrom 14 = .ok (.getfield 11, 3) := by decide +kernel
theorem dX3_copyFrom_17 : decode cX3_copyFrom 17 = .ok (.iload_n 2, 1) := by decide +kernel
theorem dX3_copyFrom_18 : decode cX3_copyFrom 18 = .ok (.baload, 1) := by decide +kernel
theorem dX3_copyFrom_19 : decode cX3_copyFrom 19 = .ok (.bastore, 1) := by decide +kernel
theorem dX3_copyFrom_20 : decode cX3_copyFrom 20 = .ok (.aload_n 0, 1) := by decide +kernel
theorem dX3_copyFrom_21 : decode cX3_copyFrom 21 = .ok (.getfield 17, 3) := by decide +kernel
theorem dX3_copyFrom_24 : decode cX3_copyFrom 24 = .ok (.iload_n 2, 1) := by decide +kernel
theorem dX3_copyFrom_25 : decode cX3_copyFrom 25 = .ok (.aload_n 1, 1) := by decide +kernel
theorem dX3_copyFrom_26 : decode cX3_copyFrom 26 = .ok (.getfield 17, 3) := by decide +kernel
theorem dX3_copyFrom_29 : decode cX3_copyFrom 29 = .ok (.iload_n 2, 1) := by decide +kernel
theorem dX3_copyFrom_30 : decode cX3_copyFrom 30 = .ok (.iaload, 1) := by decide +kernel
theorem dX3_copyFrom_31 : decode cX3_copyFrom 31 = .ok (.iastore, 1) := by decide +kernel
theorem dX3_copyFrom_32 : decode cX3_copyFrom 32 = .ok (.aload_n 0, 1) := by decide +kernel
theorem dX3_copyFrom_33 : decode cX3_copyFrom 33 = .ok (.getfield 21, 3) := by decide +kernel
theorem dX3_copyFrom_36 : decode cX3_copyFrom 36 = .ok (.iload_n 2, 1) := by decide +kernel
theorem dX3_copyFrom_37 : decode cX3_copyFrom 37 = .ok (.aload_n 1, 1) := by decide +kernel
theorem dX3_copyFrom_38 : decode cX3_copyFrom 38 = .ok (.getfield 21, 3) := by decide +kernel
theorem dX3_copyFrom_41 : decode cX3_copyFrom 41 = .ok (.iload_n 2, 1) := by decide +kernel
theorem dX3_copyFrom_42 : decode cX3_copyFrom 42 = .ok (.iaload, 1) := by decide +kernel
theorem dX3_copyFrom_43 : decode cX3_copyFrom 43 = .ok (.iastore, 1) := by decide +kernel
theorem dX3_copyFrom_44 : decode cX3_copyFrom 44 = .ok (.iinc 2 1, 3) := by decide +kernel
theorem dX3_copyFrom_47 : decode cX3_copyFrom 47 = .ok (.goto (-45), 3) := by decide +kernel
theorem dX3_copyFrom_50 : decode cX3_copyFrom 50 = .ok (.aload_n 1, 1) := by decide +kernel
theorem dX3_copyFrom_51 : decode cX3_copyFrom 51 = .ok (.getfield 24, 3) := by decide +kernel
theorem dX3_copyFrom_54 : decode cX3_copyFrom 54 = .ok (.iconst 0, 1) := by decide +kernel
theorem dX3_copyFrom_55 : decode cX3_copyFrom 55 = .ok (.aload_n 0, 1) := by decide +kernel
theorem dX3_copyFrom_56 : decode cX3_copyFrom 56 = .ok (.getfield 24, 3) := by decide +kernel
theorem dX3_copyFrom_59 : decode cX3_copyFrom 59 = .ok (.iconst 0, 1) := by decide +kernel
theorem dX3_copyFrom_60 : decode cX3_copyFrom 60 = .ok (.sipush 400, 3) := by decide +kernel
theorem dX3_copyFrom_63 : decode cX3_copyFrom 63 = .ok (.invokestatic 40, 3) := by decide +kernel
theorem dX3_copyFrom_66 : decode cX3_copyFrom 66 = .ok (.aload_n 0, 1) := by decide +kernel
theorem dX3_copyFrom_67 : decode cX3_copyFrom 67 = .ok (.aload_n 1, 1) := by decide +kernel
theorem dX3_copyFrom_68 : decode cX3_copyFrom 68 = .ok (.getfield 33, 3) := by decide +kernel
theorem dX3_copyFrom_71 : decode cX3_copyFrom 71 = .ok (.putfield 33, 3) := by decide +kernel
theorem dX3_copyFrom_74 : decode cX3_copyFrom 74 = .ok (.aload_n 0, 1) := by decide +kernel
theorem dX3_copyFrom_75 : decode cX3_copyFrom 75 = .ok (.aload_n 1, 1) := by decide +kernel
theorem dX3_copyFrom_76 : decode cX3_copyFrom 76 = .ok (.getfield 37, 3) := by decide +kernel
theorem dX3_copyFrom_79 : decode cX3_copyFrom 79 = .ok (.putfield 37, 3) := by decide +kernel
theorem dX3_copyFrom_82 : decode cX3_copyFrom 82 = .ok (.return_, 1) := by decide +kernel
theorem dX3_clear_0 : decode cX3_clear 0 = .ok (.aload_n 0, 1) := by decide +kernel
theorem dX3_clear_1 : decode cX3_clear 1 = .ok (.iconst 0, 1) := by decide +kernel
theorem dX3_clear_2 : decode cX3_clear 2 = .ok (.putfield 33, 3) := by decide +kernel
theorem dX3_clear_5 : decode cX3_clear 5 = .ok (.aload_n 0, 1) := by decide +kernel
theorem dX3_clear_6 : decode cX3_clear 6 = .ok (.iconst 0, 1) := by decide +kernel
theorem dX3_clear_7 : decode cX3_clear 7 = .ok (.putfield 37, 3) := by decide +kernel
theorem dX3_clear_10 : decode cX3_clear 10 = .ok (.return_, 1) := by decide +kernel
theorem dX3_put_0 : decode cX3_put 0 = .ok (.aload_n 0, 1) := by decide +kernel
theorem dX3_put_1 : decode cX3_put 1 = .ok (.getfield 37, 3) := by decide +kernel
theorem dX3_put_4 : decode cX3_put 4 = .ok (.sipush 400, 3) := by decide +kernel
theorem dX3_put_7 : decode cX3_put 7 = .ok (.if_icmp .lt 5, 3) := by decide +kernel
theorem dX3_put_10 : decode cX3_put 10 = .ok (.iconst 0, 1) := by decide +kernel
theorem dX3_put_11 : decode cX3_put 11 = .ok (.ireturn, 1) := by decide +kernel
theorem dX3_put_12 : decode cX3_put 12 = .ok (.aload_n 0, 1) := by decide +kernel
theorem dX3_put_13 : decode cX3_put 13 = .ok (.getfield 24, 3) := by decide +kernel
theorem dX3_put_16 : decode cX3_put 16 = .ok (.aload_n 0, 1) := by decide +kernel
theorem dX3_put_17 : decode cX3_put 17 = .ok (.getfield 37, 3) := by decide +kernel
theorem dX3_put_20 : decode cX3_put 20 = .ok (.iload_n 1, 1) := by decide +kernel
theorem dX3_put_21 : decode cX3_put 21 = .ok (.iastore, 1) := by decide +kernel
theorem dX3_put_22 : decode cX3_put 22 = .ok (.aload_n 0, 1) := by decide +kernel
theorem dX3_put_23 : decode cX3_put 23 = .ok (.dup, 1) := by decide +kernel
theorem dX3_put_24 : decode cX3_put 24 = .ok (.getfield 37, 3) := by decide +kernel
theorem dX3_put_27 : decode cX3_put 27 = .ok (.iconst 1, 1) := by decide +kernel
theorem dX3_put_28 : decode cX3_put 28 = .ok (.iadd, 1) := by decide +kernel
theorem dX3_put_29 : decode cX3_put 29 = .ok (.putfield 37, 3) := by decide +kernel
theorem dX3_put_32 : decode cX3_put 32 = .ok (.iconst 1, 1) := by decide +kernel
theorem dX3_put_33 : decode cX3_put 33 = .ok (.ireturn, 1) := by decide +kernel
theorem dX3_endLine_0 : decode cX3_endLine 0 = .ok (.aload_n 0, 1) := by decide +kernel
theorem dX3_endLine_1 : decode cX3_endLine 1 = .ok (.getfield 33, 3) := by decide +kernel
theorem dX3_endLine_4 : decode cX3_endLine 4 = .ok (.ifCond .lt 12, 3) := by decide +kernel
theorem dX3_endLine_7 : decode cX3_endLine 7 = .ok (.aload_n 0, 1) := by decide +kernel
theorem dX3_endLine_8 : decode cX3_endLine 8 = .ok (.getfield 33, 3) := by decide +kernel
theorem dX3_endLine_11 : decode cX3_endLine 11 = .ok (.bipush 12, 2) := by decide +kernel
theorem dX3_endLine_13 : decode cX3_endLine 13 = .ok (.if_icmp .lt 5, 3) := by decide +kernel
theorem dX3_endLine_16 : decode cX3_endLine 16 = .ok (.iconst 0, 1) := by decide +kernel
theorem dX3_endLine_17 : decode cX3_endLine 17 = .ok (.ireturn, 1) := by decide +kernel
theorem dX3_endLine_18 : decode cX3_endLine 18 = .ok (.aload_n 0, 1) := by decide +kernel
theorem dX3_endLine_19 : decode cX3_endLine 19 = .ok (.getfield 11, 3) := by decide +kernel
theorem dX3_endLine_22 : decode cX3_endLine 22 = .ok (.aload_n 0, 1) := by decide +kernel
theorem dX3_endLine_23 : decode cX3_endLine 23 = .ok (.getfield 33, 3) := by decide +kernel
theorem dX3_endLine_26 : decode cX3_endLine 26 = .ok (.iload_n 1, 1) := by decide +kernel
theorem dX3_endLine_27 : decode cX3_endLine 27 = .ok (.bastore, 1) := by decide +kernel
theorem dX3_endLine_28 : decode cX3_endLine 28 = .ok (.aload_n 0, 1) := by decide +kernel
theorem dX3_endLine_29 : decode cX3_endLine 29 = .ok (.getfield 17, 3) := by decide +kernel
theorem dX3_endLine_32 : decode cX3_endLine 32 = .ok (.aload_n 0, 1) := by decide +kernel
theorem dX3_endLine_33 : decode cX3_endLine 33 = .ok (.getfield 33, 3) := by decide +kernel
theorem dX3_endLine_36 : decode cX3_endLine 36 = .ok (.iload_n 2, 1) := by decide +kernel
theorem dX3_endLine_37 : decode cX3_endLine 37 = .ok (.iastore, 1) := by decide +kernel
theorem dX3_endLine_38 : decode cX3_endLine 38 = .ok (.aload_n 0, 1) := by decide +kernel
theorem dX3_endLine_39 : decode cX3_endLine 39 = .ok (.getfield 21, 3) := by decide +kernel
theorem dX3_endLine_42 : decode cX3_endLine 42 = .ok (.aload_n 0, 1) := by decide +kernel
theorem dX3_endLine_43 : decode cX3_endLine 43 = .ok (.getfield 33, 3) := by decide +kernel
theorem dX3_endLine_46 : decode cX3_endLine 46 = .ok (.aload_n 0, 1) := by decide +kernel
theorem dX3_endLine_47 : decode cX3_endLine 47 = .ok (.getfield 37, 3) := by decide +kernel
theorem dX3_endLine_50 : decode cX3_endLine 50 = .ok (.iastore, 1) := by decide +kernel
theorem dX3_endLine_51 : decode cX3_endLine 51 = .ok (.aload_n 0, 1) := by decide +kernel
theorem dX3_endLine_52 : decode cX3_endLine 52 = .ok (.dup, 1) := by decide +kernel
theorem dX3_endLine_53 : decode cX3_endLine 53 = .ok (.getfield 33, 3) := by decide +kernel
theorem dX3_endLine_56 : decode cX3_endLine 56 = .ok (.iconst 1, 1) := by decide +kernel
theorem dX3_endLine_57 : decode cX3_endLine 57 = .ok (.iadd, 1) := by decide +kernel
theorem dX3_endLine_58 : decode cX3_endLine 58 = .ok (.putfield 33, 3) := by decide +kernel
theorem dX3_endLine_61 : decode cX3_endLine 61 = .ok (.iconst 1, 1) := by decide +kernel
theorem dX3_endLine_62 : decode cX3_endLine 62 = .ok (.ireturn, 1) := by decide +kernel
theorem dX3_loosens_0 : decode cX3_loosens 0 = .ok (.bipush 10, 2) := by decide +kernel
theorem dX3_loosens_2 : decode cX3_loosens 2 = .ok (.iconst 5, 1) := by decide +kernel
theorem dX3_loosens_3 : decode cX3_loosens 3 = .ok (.aload_n 1, 1) := by decide +kernel
theorem dX3_loosens_4 : decode cX3_loosens 4 = .ok (.getfield 46, 3) := by decide +kernel
theorem dX3_loosens_7 : decode cX3_loosens 7 = .ok (.iconst 3, 1) := by decide +kernel
theorem dX3_loosens_8 : decode cX3_loosens 8 = .ok (.aaload, 1) := by decide +kernel
theorem dX3_loosens_9 : decode cX3_loosens 9 = .ok (.iload_n 2, 1) := by decide +kernel
theorem dX3_loosens_10 : decode cX3_loosens 10 = .ok (.iaload, 1) := by decide +kernel
theorem dX3_loosens_11 : decode cX3_loosens 11 = .ok (.imul, 1) := by decide +kernel
theorem dX3_loosens_12 : decode cX3_loosens 12 = .ok (.isub, 1) := by decide +kernel
theorem dX3_loosens_13 : decode cX3_loosens 13 = .ok (.aload_n 0, 1) := by decide +kernel
theorem dX3_loosens_14 : decode cX3_loosens 14 = .ok (.iconst 0, 1) := by decide +kernel
theorem dX3_loosens_15 : decode cX3_loosens 15 = .ok (.aload_n 1, 1) := by decide +kernel
theorem dX3_loosens_16 : decode cX3_loosens 16 = .ok (.iload_n 2, 1) := by decide +kernel
theorem dX3_loosens_17 : decode cX3_loosens 17 = .ok (.invokevirtual 52, 3) := by decide +kernel
theorem dX3_loosens_20 : decode cX3_loosens 20 = .ok (.iadd, 1) := by decide +kernel
theorem dX3_loosens_21 : decode cX3_loosens 21 = .ok (.iconst 0, 1) := by decide +kernel
theorem dX3_loosens_22 : decode cX3_loosens 22 = .ok (.invokestatic 56, 3) := by decide +kernel
theorem dX3_loosens_25 : decode cX3_loosens 25 = .ok (.ireturn, 1) := by decide +kernel
theorem dX3_leads_0 : decode cX3_leads 0 = .ok (.aload_n 1, 1) := by decide +kernel
theorem dX3_leads_1 : decode cX3_leads 1 = .ok (.getfield 62, 3) := by decide +kernel
theorem dX3_leads_4 : decode cX3_leads 4 = .ok (.iconst 3, 1) := by decide +kernel
theorem dX3_leads_5 : decode cX3_leads 5 = .ok (.aaload, 1) := by decide +kernel
theorem dX3_leads_6 : decode cX3_leads 6 = .ok (.aload_n 1, 1) := by decide +kernel
theorem dX3_leads_7 : decode cX3_leads 7 = .ok (.getfield 46, 3) := by decide +kernel
theorem dX3_leads_10 : decode cX3_leads 10 = .ok (.iconst 1, 1) := by decide +kernel
theorem dX3_leads_11 : decode cX3_leads 11 = .ok (.aaload, 1) := by decide +kernel
theorem dX3_leads_12 : decode cX3_leads 12 = .ok (.iload_n 2, 1) := by decide +kernel
theorem dX3_leads_13 : decode cX3_leads 13 = .ok (.iaload, 1) := by decide +kernel
theorem dX3_leads_14 : decode cX3_leads 14 = .ok (.iaload, 1) := by decide +kernel
theorem dX3_leads_15 : decode cX3_leads 15 = .ok (.aload_n 0, 1) := by decide +kernel
theorem dX3_leads_16 : decode cX3_leads 16 = .ok (.iconst 1, 1) := by decide +kernel
theorem dX3_leads_17 : decode cX3_leads 17 = .ok (.aload_n 1, 1) := by decide +kernel
theorem dX3_leads_18 : decode cX3_leads 18 = .ok (.iload_n 2, 1) := by decide +kernel
theorem dX3_leads_19 : decode cX3_leads 19 = .ok (.invokevirtual 52, 3) := by decide +kernel
theorem dX3_leads_22 : decode cX3_leads 22 = .ok (.iadd, 1) := by decide +kernel
theorem dX3_leads_23 : decode cX3_leads 23 = .ok (.ireturn, 1) := by decide +kernel
theorem dX3_sumOf_0 : decode cX3_sumOf 0 = .ok (.aload_n 0, 1) := by decide +kernel
theorem dX3_sumOf_1 : decode cX3_sumOf 1 = .ok (.getfield 33, 3) := by decide +kernel
theorem dX3_sumOf_4 : decode cX3_sumOf 4 = .ok (.ifCond .gt 5, 3) := by decide +kernel
theorem dX3_sumOf_7 : decode cX3_sumOf 7 = .ok (.iconst 0, 1) := by decide +kernel
theorem dX3_sumOf_8 : decode cX3_sumOf 8 = .ok (.ireturn, 1) := by decide +kernel
theorem dX3_sumOf_9 : decode cX3_sumOf 9 = .ok (.aload_n 0, 1) := by decide +kernel
theorem dX3_sumOf_10 : decode cX3_sumOf 10 = .ok (.aload_n 2, 1) := by decide +kernel
theorem dX3_sumOf_11 : decode cX3_sumOf 11 = .ok (.iload_n 3, 1) := by decide +kernel
theorem dX3_sumOf_12 : decode cX3_sumOf 12 = .ok (.invokevirtual 65, 3) := by decide +kernel
theorem dX3_sumOf_15 : decode cX3_sumOf 15 = .ok (.iconst 0, 1) := by decide +kernel
theorem dX3_sumOf_16 : decode cX3_sumOf 16 = .ok (.istore 4, 2) := by decide +kernel
theorem dX3_sumOf_18 : decode cX3_sumOf 18 = .ok (.iconst 0, 1) := by decide +kernel
theorem dX3_sumOf_19 : decode cX3_sumOf 19 = .ok (.istore 5, 2) := by decide +kernel
theorem dX3_sumOf_21 : decode cX3_sumOf 21 = .ok (.iconst 0, 1) := by decide +kernel
theorem dX3_sumOf_22 : decode cX3_sumOf 22 = .ok (.istore 6, 2) := by decide +kernel
theorem dX3_sumOf_24 : decode cX3_sumOf 24 = .ok (.iload 6, 2) := by decide +kernel
theorem dX3_sumOf_26 : decode cX3_sumOf 26 = .ok (.aload_n 0, 1) := by decide +kernel
theorem dX3_sumOf_27 : decode cX3_sumOf 27 = .ok (.getfield 33, 3) := by decide +kernel
theorem dX3_sumOf_30 : decode cX3_sumOf 30 = .ok (.if_icmp .ge 57, 3) := by decide +kernel
theorem dX3_sumOf_33 : decode cX3_sumOf 33 = .ok (.aload_n 0, 1) := by decide +kernel
theorem dX3_sumOf_34 : decode cX3_sumOf 34 = .ok (.getfield 11, 3) := by decide +kernel
theorem dX3_sumOf_37 : decode cX3_sumOf 37 = .ok (.iload 6, 2) := by decide +kernel
theorem dX3_sumOf_39 : decode cX3_sumOf 39 = .ok (.baload, 1) := by decide +kernel
theorem dX3_sumOf_40 : decode cX3_sumOf 40 = .ok (.iload_n 1, 1) := by decide +kernel
theorem dX3_sumOf_41 : decode cX3_sumOf 41 = .ok (.if_icmp .ne 31, 3) := by decide +kernel
theorem dX3_sumOf_44 : decode cX3_sumOf 44 = .ok (.aload_n 0, 1) := by decide +kernel
theorem dX3_sumOf_45 : decode cX3_sumOf 45 = .ok (.iload 5, 2) := by decide +kernel
theorem dX3_sumOf_47 : decode cX3_sumOf 47 = .ok (.aload_n 0, 1) := by decide +kernel
theorem dX3_sumOf_48 : decode cX3_sumOf 48 = .ok (.getfield 21, 3) := by decide +kernel
theorem dX3_sumOf_51 : decode cX3_sumOf 51 = .ok (.iload 6, 2) := by decide +kernel
theorem dX3_sumOf_53 : decode cX3_sumOf 53 = .ok (.iaload, 1) := by decide +kernel
theorem dX3_sumOf_54 : decode cX3_sumOf 54 = .ok (.invokevirtual 69, 3) := by decide +kernel
theorem dX3_sumOf_57 : decode cX3_sumOf 57 = .ok (.ifCond .eq 15, 3) := by decide +kernel
theorem dX3_sumOf_60 : decode cX3_sumOf 60 = .ok (.iload 4, 2) := by decide +kernel
theorem dX3_sumOf_62 : decode cX3_sumOf 62 = .ok (.aload_n 0, 1) := by decide +kernel
theorem dX3_sumOf_63 : decode cX3_sumOf 63 = .ok (.getfield 17, 3) := by decide +kernel
theorem dX3_sumOf_66 : decode cX3_sumOf 66 = .ok (.iload 6, 2) := by decide +kernel
theorem dX3_sumOf_68 : decode cX3_sumOf 68 = .ok (.iaload, 1) := by decide +kernel
theorem dX3_sumOf_69 : decode cX3_sumOf 69 = .ok (.iadd, 1) := by decide +kernel
theorem dX3_sumOf_70 : decode cX3_sumOf 70 = .ok (.istore 4, 2) := by decide +kernel
theorem dX3_sumOf_72 : decode cX3_sumOf 72 = .ok (.aload_n 0, 1) := by decide +kernel
theorem dX3_sumOf_73 : decode cX3_sumOf 73 = .ok (.getfield 21, 3) := by decide +kernel
theorem dX3_sumOf_76 : decode cX3_sumOf 76 = .ok (.iload 6, 2) := by decide +kernel
theorem dX3_sumOf_78 : decode cX3_sumOf 78 = .ok (.iaload, 1) := by decide +kernel
theorem dX3_sumOf_79 : decode cX3_sumOf 79 = .ok (.istore 5, 2) := by decide +kernel
theorem dX3_sumOf_81 : decode cX3_sumOf 81 = .ok (.iinc 6 1, 3) := by decide +kernel
theorem dX3_sumOf_84 : decode cX3_sumOf 84 = .ok (.goto (-60), 3) := by decide +kernel
theorem dX3_sumOf_87 : decode cX3_sumOf 87 = .ok (.iload 4, 2) := by decide +kernel
theorem dX3_sumOf_89 : decode cX3_sumOf 89 = .ok (.ireturn, 1) := by decide +kernel
theorem dX3_lookAt_0 : decode cX3_lookAt 0 = .ok (.aload_n 1, 1) := by decide +kernel
theorem dX3_lookAt_1 : decode cX3_lookAt 1 = .ok (.getfield 46, 3) := by decide +kernel
theorem dX3_lookAt_4 : decode cX3_lookAt 4 = .ok (.iconst 1, 1) := by decide +kernel
theorem dX3_lookAt_5 : decode cX3_lookAt 5 = .ok (.aaload, 1) := by decide +kernel
theorem dX3_lookAt_6 : decode cX3_lookAt 6 = .ok (.iload_n 2, 1) := by decide +kernel
theorem dX3_lookAt_7 : decode cX3_lookAt 7 = .ok (.iaload, 1) := by decide +kernel
theorem dX3_lookAt_8 : decode cX3_lookAt 8 = .ok (.istore_n 3, 1) := by decide +kernel
theorem dX3_lookAt_9 : decode cX3_lookAt 9 = .ok (.aload_n 0, 1) := by decide +kernel
theorem dX3_lookAt_10 : decode cX3_lookAt 10 = .ok (.getfield 27, 3) := by decide +kernel
theorem dX3_lookAt_13 : decode cX3_lookAt 13 = .ok (.iconst 0, 1) := by decide +kernel
theorem dX3_lookAt_14 : decode cX3_lookAt 14 = .ok (.iload_n 2, 1) := by decide +kernel
theorem dX3_lookAt_15 : decode cX3_lookAt 15 = .ok (.iastore, 1) := by decide +kernel
theorem dX3_lookAt_16 : decode cX3_lookAt 16 = .ok (.aload_n 0, 1) := by decide +kernel
theorem dX3_lookAt_17 : decode cX3_lookAt 17 = .ok (.getfield 27, 3) := by decide +kernel
theorem dX3_lookAt_20 : decode cX3_lookAt 20 = .ok (.iconst 1, 1) := by decide +kernel
theorem dX3_lookAt_21 : decode cX3_lookAt 21 = .ok (.aload_n 1, 1) := by decide +kernel
theorem dX3_lookAt_22 : decode cX3_lookAt 22 = .ok (.getfield 46, 3) := by decide +kernel
theorem dX3_lookAt_25 : decode cX3_lookAt 25 = .ok (.iconst 0, 1) := by decide +kernel
theorem dX3_lookAt_26 : decode cX3_lookAt 26 = .ok (.aaload, 1) := by decide +kernel
theorem dX3_lookAt_27 : decode cX3_lookAt 27 = .ok (.iload_n 2, 1) := by decide +kernel
theorem dX3_lookAt_28 : decode cX3_lookAt 28 = .ok (.iaload, 1) := by decide +kernel
theorem dX3_lookAt_29 : decode cX3_lookAt 29 = .ok (.iastore, 1) := by decide +kernel
theorem dX3_lookAt_30 : decode cX3_lookAt 30 = .ok (.aload_n 0, 1) := by decide +kernel
theorem dX3_lookAt_31 : decode cX3_lookAt 31 = .ok (.getfield 27, 3) := by decide +kernel
theorem dX3_lookAt_34 : decode cX3_lookAt 34 = .ok (.iconst 2, 1) := by decide +kernel
theorem dX3_lookAt_35 : decode cX3_lookAt 35 = .ok (.aload_n 1, 1) := by decide +kernel
theorem dX3_lookAt_36 : decode cX3_lookAt 36 = .ok (.getfield 46, 3) := by decide +kernel
theorem dX3_lookAt_39 : decode cX3_lookAt 39 = .ok (.iconst 3, 1) := by decide +kernel
theorem dX3_lookAt_40 : decode cX3_lookAt 40 = .ok (.aaload, 1) := by decide +kernel
theorem dX3_lookAt_41 : decode cX3_lookAt 41 = .ok (.iload_n 2, 1) := by decide +kernel
theorem dX3_lookAt_42 : decode cX3_lookAt 42 = .ok (.iaload, 1) := by decide +kernel
theorem dX3_lookAt_43 : decode cX3_lookAt 43 = .ok (.iastore, 1) := by decide +kernel
theorem dX3_lookAt_44 : decode cX3_lookAt 44 = .ok (.aload_n 0, 1) := by decide +kernel
theorem dX3_lookAt_45 : decode cX3_lookAt 45 = .ok (.getfield 27, 3) := by decide +kernel
theorem dX3_lookAt_48 : decode cX3_lookAt 48 = .ok (.iconst 3, 1) := by decide +kernel
theorem dX3_lookAt_49 : decode cX3_lookAt 49 = .ok (.aload_n 1, 1) := by decide +kernel
theorem dX3_lookAt_50 : decode cX3_lookAt 50 = .ok (.getfield 62, 3) := by decide +kernel
theorem dX3_lookAt_53 : decode cX3_lookAt 53 = .ok (.iconst 1, 1) := by decide +kernel
theorem dX3_lookAt_54 : decode cX3_lookAt 54 = .ok (.aaload, 1) := by decide +kernel
theorem dX3_lookAt_55 : decode cX3_lookAt 55 = .ok (.iload_n 3, 1) := by decide +kernel
theorem dX3_lookAt_56 : decode cX3_lookAt 56 = .ok (.iaload, 1) := by decide +kernel
theorem dX3_lookAt_57 : decode cX3_lookAt 57 = .ok (.iastore, 1) := by decide +kernel
theorem dX3_lookAt_58 : decode cX3_lookAt 58 = .ok (.aload_n 0, 1) := by decide +kernel
theorem dX3_lookAt_59 : decode cX3_lookAt 59 = .ok (.getfield 27, 3) := by decide +kernel
theorem dX3_lookAt_62 : decode cX3_lookAt 62 = .ok (.iconst 4, 1) := by decide +kernel
theorem dX3_lookAt_63 : decode cX3_lookAt 63 = .ok (.aload_n 1, 1) := by decide +kernel
theorem dX3_lookAt_64 : decode cX3_lookAt 64 = .ok (.getfield 62, 3) := by decide +kernel
theorem dX3_lookAt_67 : decode cX3_lookAt 67 = .ok (.iconst 2, 1) := by decide +kernel
theorem dX3_lookAt_68 : decode cX3_lookAt 68 = .ok (.aaload, 1) := by decide +kernel
theorem dX3_lookAt_69 : decode cX3_lookAt 69 = .ok (.iload_n 3, 1) := by decide +kernel
theorem dX3_lookAt_70 : decode cX3_lookAt 70 = .ok (.iaload, 1) := by decide +kernel
theorem dX3_lookAt_71 : decode cX3_lookAt 71 = .ok (.iastore, 1) := by decide +kernel
theorem dX3_lookAt_72 : decode cX3_lookAt 72 = .ok (.aload_n 0, 1) := by decide +kernel
theorem dX3_lookAt_73 : decode cX3_lookAt 73 = .ok (.getfield 27, 3) := by decide +kernel
theorem dX3_lookAt_76 : decode cX3_lookAt 76 = .ok (.iconst 5, 1) := by decide +kernel
theorem dX3_lookAt_77 : decode cX3_lookAt 77 = .ok (.aload_n 1, 1) := by decide +kernel
theorem dX3_lookAt_78 : decode cX3_lookAt 78 = .ok (.getfield 62, 3) := by decide +kernel
theorem dX3_lookAt_81 : decode cX3_lookAt 81 = .ok (.iconst 3, 1) := by decide +kernel
theorem dX3_lookAt_82 : decode cX3_lookAt 82 = .ok (.aaload, 1) := by decide +kernel
theorem dX3_lookAt_83 : decode cX3_lookAt 83 = .ok (.iload_n 3, 1) := by decide +kernel
theorem dX3_lookAt_84 : decode cX3_lookAt 84 = .ok (.iaload, 1) := by decide +kernel
theorem dX3_lookAt_85 : decode cX3_lookAt 85 = .ok (.iastore, 1) := by decide +kernel
theorem dX3_lookAt_86 : decode cX3_lookAt 86 = .ok (.aload_n 0, 1) := by decide +kernel
theorem dX3_lookAt_87 : decode cX3_lookAt 87 = .ok (.getfield 27, 3) := by decide +kernel
theorem dX3_lookAt_90 : decode cX3_lookAt 90 = .ok (.bipush 6, 2) := by decide +kernel
theorem dX3_lookAt_92 : decode cX3_lookAt 92 = .ok (.aload_n 1, 1) := by decide +kernel
theorem dX3_lookAt_93 : decode cX3_lookAt 93 = .ok (.getfield 46, 3) := by decide +kernel
theorem dX3_lookAt_96 : decode cX3_lookAt 96 = .ok (.iconst 2, 1) := by decide +kernel
theorem dX3_lookAt_97 : decode cX3_lookAt 97 = .ok (.aaload, 1) := by decide +kernel
theorem dX3_lookAt_98 : decode cX3_lookAt 98 = .ok (.iload_n 2, 1) := by decide +kernel
theorem dX3_lookAt_99 : decode cX3_lookAt 99 = .ok (.iaload, 1) := by decide +kernel
theorem dX3_lookAt_100 : decode cX3_lookAt 100 = .ok (.invokestatic 73, 3) := by decide +kernel
theorem dX3_lookAt_103 : decode cX3_lookAt 103 = .ok (.iastore, 1) := by decide +kernel
theorem dX3_lookAt_104 : decode cX3_lookAt 104 = .ok (.aload_n 0, 1) := by decide +kernel
theorem dX3_lookAt_105 : decode cX3_lookAt 105 = .ok (.getfield 27, 3) := by decide +kernel
theorem dX3_lookAt_108 : decode cX3_lookAt 108 = .ok (.bipush 7, 2) := by decide +kernel
theorem dX3_lookAt_110 : decode cX3_lookAt 110 = .ok (.aload_n 1, 1) := by decide +kernel
theorem dX3_lookAt_111 : decode cX3_lookAt 111 = .ok (.getfield 79, 3) := by decide +kernel
theorem dX3_lookAt_114 : decode cX3_lookAt 114 = .ok (.iastore, 1) := by decide +kernel
theorem dX3_lookAt_115 : decode cX3_lookAt 115 = .ok (.aload_n 0, 1) := by decide +kernel
theorem dX3_lookAt_116 : decode cX3_lookAt 116 = .ok (.getfield 27, 3) := by decide +kernel
theorem dX3_lookAt_119 : decode cX3_lookAt 119 = .ok (.bipush 8, 2) := by decide +kernel
theorem dX3_lookAt_121 : decode cX3_lookAt 121 = .ok (.aload_n 1, 1) := by decide +kernel
theorem dX3_lookAt_122 : decode cX3_lookAt 122 = .ok (.getfield 46, 3) := by decide +kernel
theorem dX3_lookAt_125 : decode cX3_lookAt 125 = .ok (.bipush 8, 2) := by decide +kernel
theorem dX3_lookAt_127 : decode cX3_lookAt 127 = .ok (.aaload, 1) := by decide +kernel
theorem dX3_lookAt_128 : decode cX3_lookAt 128 = .ok (.iload_n 2, 1) := by decide +kernel
theorem dX3_lookAt_129 : decode cX3_lookAt 129 = .ok (.iaload, 1) := by decide +kernel
theorem dX3_lookAt_130 : decode cX3_lookAt 130 = .ok (.iconst (-1), 1) := by decide +kernel
theorem dX3_lookAt_131 : decode cX3_lookAt 131 = .ok (.if_icmp .eq 7, 3) := by decide +kernel
theorem dX3_lookAt_134 : decode cX3_lookAt 134 = .ok (.iconst 1, 1) := by decide +kernel
theorem dX3_lookAt_135 : decode cX3_lookAt 135 = .ok (.goto 4, 3) := by decide +kernel
theorem dX3_lookAt_138 : decode cX3_lookAt 138 = .ok (.iconst 0, 1) := by decide +kernel
theorem dX3_lookAt_139 : decode cX3_lookAt 139 = .ok (.iastore, 1) := by decide +kernel
theorem dX3_lookAt_140 : decode cX3_lookAt 140 = .ok (.aload_n 0, 1) := by decide +kernel
theorem dX3_lookAt_141 : decode cX3_lookAt 141 = .ok (.getfield 27, 3) := by decide +kernel
theorem dX3_lookAt_144 : decode cX3_lookAt 144 = .ok (.bipush 9, 2) := by decide +kernel
theorem dX3_lookAt_146 : decode cX3_lookAt 146 = .ok (.aload_n 1, 1) := by decide +kernel
theorem dX3_lookAt_147 : decode cX3_lookAt 147 = .ok (.getfield 46, 3) := by decide +kernel
theorem dX3_lookAt_150 : decode cX3_lookAt 150 = .ok (.iconst 4, 1) := by decide +kernel
theorem dX3_lookAt_151 : decode cX3_lookAt 151 = .ok (.aaload, 1) := by decide +kernel
theorem dX3_lookAt_152 : decode cX3_lookAt 152 = .ok (.iload_n 2, 1) := by decide +kernel
theorem dX3_lookAt_153 : decode cX3_lookAt 153 = .ok (.iaload, 1) := by decide +kernel
theorem dX3_lookAt_154 : decode cX3_lookAt 154 = .ok (.iload_n 3, 1) := by decide +kernel
theorem dX3_lookAt_155 : decode cX3_lookAt 155 = .ok (.if_icmp .ne 7, 3) := by decide +kernel
theorem dX3_lookAt_158 : decode cX3_lookAt 158 = .ok (.iconst 1, 1) := by decide +kernel
theorem dX3_lookAt_159 : decode cX3_lookAt 159 = .ok (.goto 4, 3) := by decide +kernel
theorem dX3_lookAt_162 : decode cX3_lookAt 162 = .ok (.iconst 0, 1) := by decide +kernel
theorem dX3_lookAt_163 : decode cX3_lookAt 163 = .ok (.iastore, 1) := by decide +kernel
theorem dX3_lookAt_164 : decode cX3_lookAt 164 = .ok (.aload_n 0, 1) := by decide +kernel
theorem dX3_lookAt_165 : decode cX3_lookAt 165 = .ok (.getfield 27, 3) := by decide +kernel
theorem dX3_lookAt_168 : decode cX3_lookAt 168 = .ok (.bipush 10, 2) := by decide +kernel
theorem dX3_lookAt_170 : decode cX3_lookAt 170 = .ok (.iload_n 3, 1) := by decide +kernel
theorem dX3_lookAt_171 : decode cX3_lookAt 171 = .ok (.bipush 8, 2) := by decide +kernel
theorem dX3_lookAt_173 : decode cX3_lookAt 173 = .ok (.if_icmp .ne 7, 3) := by decide +kernel
theorem dX3_lookAt_176 : decode cX3_lookAt 176 = .ok (.iconst 1, 1) := by decide +kernel
theorem dX3_lookAt_177 : decode cX3_lookAt 177 = .ok (.goto 4, 3) := by decide +kernel
theorem dX3_lookAt_180 : decode cX3_lookAt 180 = .ok (.iconst 0, 1) := by decide +kernel
theorem dX3_lookAt_181 : decode cX3_lookAt 181 = .ok (.iastore, 1) := by decide +kernel
theorem dX3_lookAt_182 : decode cX3_lookAt 182 = .ok (.return_, 1) := by decide +kernel
theorem dX3_holds_0 : decode cX3_holds 0 = .ok (.iload_n 1, 1) := by decide +kernel
theorem dX3_holds_1 : decode cX3_holds 1 = .ok (.iload_n 2, 1) := by decide +kernel
theorem dX3_holds_2 : decode cX3_holds 2 = .ok (.if_icmp .ne 5, 3) := by decide +kernel
theorem dX3_holds_5 : decode cX3_holds 5 = .ok (.iconst 1, 1) := by decide +kernel
theorem dX3_holds_6 : decode cX3_holds 6 = .ok (.ireturn, 1) := by decide +kernel
theorem dX3_holds_7 : decode cX3_holds 7 = .ok (.iconst 0, 1) := by decide +kernel
theorem dX3_holds_8 : decode cX3_holds 8 = .ok (.istore_n 3, 1) := by decide +kernel
theorem dX3_holds_9 : decode cX3_holds 9 = .ok (.iload_n 1, 1) := by decide +kernel
theorem dX3_holds_10 : decode cX3_holds 10 = .ok (.istore 4, 2) := by decide +kernel
theorem dX3_holds_12 : decode cX3_holds 12 = .ok (.iload 4, 2) := by decide +kernel
theorem dX3_holds_14 : decode cX3_holds 14 = .ok (.iload_n 2, 1) := by decide +kernel
theorem dX3_holds_15 : decode cX3_holds 15 = .ok (.if_icmp .ge 143, 3) := by decide +kernel
theorem dX3_holds_18 : decode cX3_holds 18 = .ok (.aload_n 0, 1) := by decide +kernel
theorem dX3_holds_19 : decode cX3_holds 19 = .ok (.getfield 24, 3) := by decide +kernel
theorem dX3_holds_22 : decode cX3_holds 22 = .ok (.iload 4, 2) := by decide +kernel
theorem dX3_holds_24 : decode cX3_holds 24 = .ok (.iaload, 1) := by decide +kernel
theorem dX3_holds_25 : decode cX3_holds 25 = .ok (.istore 5, 2) := by decide +kernel
theorem dX3_holds_27 : decode cX3_holds 27 = .ok (.iload 5, 2) := by decide +kernel
theorem dX3_holds_29 : decode cX3_holds 29 = .ok (.sipush 1010, 3) := by decide +kernel
theorem dX3_holds_32 : decode cX3_holds 32 = .ok (.if_icmp .gt 47, 3) := by decide +kernel
theorem dX3_holds_35 : decode cX3_holds 35 = .ok (.iload_n 3, 1) := by decide +kernel
theorem dX3_holds_36 : decode cX3_holds 36 = .ok (.bipush 32, 2) := by decide +kernel
theorem dX3_holds_38 : decode cX3_holds 38 = .ok (.if_icmp .lt 5, 3) := by decide +kernel
theorem dX3_holds_41 : decode cX3_holds 41 = .ok (.iconst 0, 1) := by decide +kernel
theorem dX3_holds_42 : decode cX3_holds 42 = .ok (.ireturn, 1) := by decide +kernel
theorem dX3_holds_43 : decode cX3_holds 43 = .ok (.aload_n 0, 1) := by decide +kernel
theorem dX3_holds_44 : decode cX3_holds 44 = .ok (.getfield 30, 3) := by decide +kernel
theorem dX3_holds_47 : decode cX3_holds 47 = .ok (.iload_n 3, 1) := by decide +kernel
theorem dX3_holds_48 : decode cX3_holds 48 = .ok (.iload 5, 2) := by decide +kernel
theorem dX3_holds_50 : decode cX3_holds 50 = .ok (.sipush 1000, 3) := by decide +kernel
theorem dX3_holds_53 : decode cX3_holds 53 = .ok (.if_icmp .ge 8, 3) := by decide +kernel
theorem dX3_holds_56 : decode cX3_holds 56 = .ok (.iload 5, 2) := by decide +kernel
theorem dX3_holds_58 : decode cX3_holds 58 = .ok (.goto 14, 3) := by decide +kernel
theorem dX3_holds_61 : decode cX3_holds 61 = .ok (.aload_n 0, 1) := by decide +kernel
theorem dX3_holds_62 : decode cX3_holds 62 = .ok (.getfield 27, 3) := by decide +kernel
theorem dX3_holds_65 : decode cX3_holds 65 = .ok (.iload 5, 2) := by decide +kernel
theorem dX3_holds_67 : decode cX3_holds 67 = .ok (.sipush 1000, 3) := by decide +kernel
theorem dX3_holds_70 : decode cX3_holds 70 = .ok (.isub, 1) := by decide +kernel
theorem dX3_holds_71 : decode cX3_holds 71 = .ok (.iaload, 1) := by decide +kernel
theorem dX3_holds_72 : decode cX3_holds 72 = .ok (.iastore, 1) := by decide +kernel
theorem dX3_holds_73 : decode cX3_holds 73 = .ok (.iinc 3 1, 3) := by decide +kernel
theorem dX3_holds_76 : decode cX3_holds 76 = .ok (.goto 76, 3) := by decide +kernel
theorem dX3_holds_79 : decode cX3_holds 79 = .ok (.iload 5, 2) := by decide +kernel
theorem dX3_holds_81 : decode cX3_holds 81 = .ok (.sipush 1013, 3) := by decide +kernel
theorem dX3_holds_84 : decode cX3_holds 84 = .ok (.if_icmp .ne 31, 3) := by decide +kernel
theorem dX3_holds_87 : decode cX3_holds 87 = .ok (.iload_n 3, 1) := by decide +kernel
theorem dX3_holds_88 : decode cX3_holds 88 = .ok (.iconst 1, 1) := by decide +kernel
theorem dX3_holds_89 : decode cX3_holds 89 = .ok (.if_icmp .ge 5, 3) := by decide +kernel
theorem dX3_holds_92 : decode cX3_holds 92 = .ok (.iconst 0, 1) := by decide +kernel
theorem dX3_holds_93 : decode cX3_holds 93 = .ok (.ireturn, 1) := by decide +kernel
theorem dX3_holds_94 : decode cX3_holds 94 = .ok (.aload_n 0, 1) := by decide +kernel
theorem dX3_holds_95 : decode cX3_holds 95 = .ok (.getfield 30, 3) := by decide +kernel
theorem dX3_holds_98 : decode cX3_holds 98 = .ok (.iload_n 3, 1) := by decide +kernel
theorem dX3_holds_99 : decode cX3_holds 99 = .ok (.iconst 1, 1) := by decide +kernel
theorem dX3_holds_100 : decode cX3_holds 100 = .ok (.isub, 1) := by decide +kernel
theorem dX3_holds_101 : decode cX3_holds 101 = .ok (.iconst 1, 1) := by decide +kernel
theorem dX3_holds_102 : decode cX3_holds 102 = .ok (.aload_n 0, 1) := by decide +kernel
theorem dX3_holds_103 : decode cX3_holds 103 = .ok (.getfield 30, 3) := by decide +kernel
theorem dX3_holds_106 : decode cX3_holds 106 = .ok (.iload_n 3, 1) := by decide +kernel
theorem dX3_holds_107 : decode cX3_holds 107 = .ok (.iconst 1, 1) := by decide +kernel
theorem dX3_holds_108 : decode cX3_holds 108 = .ok (.isub, 1) := by decide +kernel
theorem dX3_holds_109 : decode cX3_holds 109 = .ok (.iaload, 1) := by decide +kernel
theorem dX3_holds_110 : decode cX3_holds 110 = .ok (.isub, 1) := by decide +kernel
theorem dX3_holds_111 : decode cX3_holds 111 = .ok (.iastore, 1) := by decide +kernel
theorem dX3_holds_112 : decode cX3_holds 112 = .ok (.goto 40, 3) := by decide +kernel
theorem dX3_holds_115 : decode cX3_holds 115 = .ok (.iload_n 3, 1) := by decide +kernel
theorem dX3_holds_116 : decode cX3_holds 116 = .ok (.iconst 2, 1) := by decide +kernel
theorem dX3_holds_117 : decode cX3_holds 117 = .ok (.if_icmp .ge 5, 3) := by decide +kernel
theorem dX3_holds_120 : decode cX3_holds 120 = .ok (.iconst 0, 1) := by decide +kernel
theorem dX3_holds_121 : decode cX3_holds 121 = .ok (.ireturn, 1) := by decide +kernel
theorem dX3_holds_122 : decode cX3_holds 122 = .ok (.iinc 3 (-1), 3) := by decide +kernel
theorem dX3_holds_125 : decode cX3_holds 125 = .ok (.aload_n 0, 1) := by decide +kernel
theorem dX3_holds_126 : decode cX3_holds 126 = .ok (.getfield 30, 3) := by decide +kernel
theorem dX3_holds_129 : decode cX3_holds 129 = .ok (.iload_n 3, 1) := by decide +kernel
theorem dX3_holds_130 : decode cX3_holds 130 = .ok (.iconst 1, 1) := by decide +kernel
theorem dX3_holds_131 : decode cX3_holds 131 = .ok (.isub, 1) := by decide +kernel
theorem dX3_holds_132 : decode cX3_holds 132 = .ok (.iload 5, 2) := by decide +kernel
theorem dX3_holds_134 : decode cX3_holds 134 = .ok (.aload_n 0, 1) := by decide +kernel
theorem dX3_holds_135 : decode cX3_holds 135 = .ok (.getfield 30, 3) := by decide +kernel
theorem dX3_holds_138 : decode cX3_holds 138 = .ok (.iload_n 3, 1) := by decide +kernel
theorem dX3_holds_139 : decode cX3_holds 139 = .ok (.iconst 1, 1) := by decide +kernel
theorem dX3_holds_140 : decode cX3_holds 140 = .ok (.isub, 1) := by decide +kernel
theorem dX3_holds_141 : decode cX3_holds 141 = .ok (.iaload, 1) := by decide +kernel
theorem dX3_holds_142 : decode cX3_holds 142 = .ok (.aload_n 0, 1) := by decide +kernel
theorem dX3_holds_143 : decode cX3_holds 143 = .ok (.getfield 30, 3) := by decide +kernel
theorem dX3_holds_146 : decode cX3_holds 146 = .ok (.iload_n 3, 1) := by decide +kernel
theorem dX3_holds_147 : decode cX3_holds 147 = .ok (.iaload, 1) := by decide +kernel
theorem dX3_holds_148 : decode cX3_holds 148 = .ok (.invokestatic 82, 3) := by decide +kernel
theorem dX3_holds_151 : decode cX3_holds 151 = .ok (.iastore, 1) := by decide +kernel
theorem dX3_holds_152 : decode cX3_holds 152 = .ok (.iinc 4 1, 3) := by decide +kernel
theorem dX3_holds_155 : decode cX3_holds 155 = .ok (.goto (-143), 3) := by decide +kernel
theorem dX3_holds_158 : decode cX3_holds 158 = .ok (.iload_n 3, 1) := by decide +kernel
theorem dX3_holds_159 : decode cX3_holds 159 = .ok (.iconst 1, 1) := by decide +kernel
theorem dX3_holds_160 : decode cX3_holds 160 = .ok (.if_icmp .ne 16, 3) := by decide +kernel
theorem dX3_holds_163 : decode cX3_holds 163 = .ok (.aload_n 0, 1) := by decide +kernel
theorem dX3_holds_164 : decode cX3_holds 164 = .ok (.getfield 30, 3) := by decide +kernel
theorem dX3_holds_167 : decode cX3_holds 167 = .ok (.iconst 0, 1) := by decide +kernel
theorem dX3_holds_168 : decode cX3_holds 168 = .ok (.iaload, 1) := by decide +kernel
theorem dX3_holds_169 : decode cX3_holds 169 = .ok (.ifCond .eq 7, 3) := by decide +kernel
theorem dX3_holds_172 : decode cX3_holds 172 = .ok (.iconst 1, 1) := by decide +kernel
theorem dX3_holds_173 : decode cX3_holds 173 = .ok (.goto 4, 3) := by decide +kernel
theorem dX3_holds_176 : decode cX3_holds 176 = .ok (.iconst 0, 1) := by decide +kernel
theorem dX3_holds_177 : decode cX3_holds 177 = .ok (.ireturn, 1) := by decide +kernel
theorem dX3_joined_0 : decode cX3_joined 0 = .ok (.iload_n 0, 1) := by decide +kernel
theorem dX3_joined_1 : decode cX3_joined 1 = .ok (.lookupswitch 73 #[(1011, 69), (1243, 43), (1260, 47), (1262, 58)], 43) := by decide +kernel
theorem dX3_joined_44 : decode cX3_joined 44 = .ok (.iload_n 1, 1) := by decide +kernel
theorem dX3_joined_45 : decode cX3_joined 45 = .ok (.iload_n 2, 1) := by decide +kernel
theorem dX3_joined_46 : decode cX3_joined 46 = .ok (.iadd, 1) := by decide +kernel
theorem dX3_joined_47 : decode cX3_joined 47 = .ok (.ireturn, 1) := by decide +kernel
theorem dX3_joined_48 : decode cX3_joined 48 = .ok (.iload_n 1, 1) := by decide +kernel
theorem dX3_joined_49 : decode cX3_joined 49 = .ok (.iload_n 2, 1) := by decide +kernel
theorem dX3_joined_50 : decode cX3_joined 50 = .ok (.if_icmp .ge 7, 3) := by decide +kernel
theorem dX3_joined_53 : decode cX3_joined 53 = .ok (.iconst 1, 1) := by decide +kernel
theorem dX3_joined_54 : decode cX3_joined 54 = .ok (.goto 4, 3) := by decide +kernel
theorem dX3_joined_57 : decode cX3_joined 57 = .ok (.iconst 0, 1) := by decide +kernel
theorem dX3_joined_58 : decode cX3_joined 58 = .ok (.ireturn, 1) := by decide +kernel
theorem dX3_joined_59 : decode cX3_joined 59 = .ok (.iload_n 1, 1) := by decide +kernel
theorem dX3_joined_60 : decode cX3_joined 60 = .ok (.iload_n 2, 1) := by decide +kernel
theorem dX3_joined_61 : decode cX3_joined 61 = .ok (.if_icmp .le 7, 3) := by decide +kernel
theorem dX3_joined_64 : decode cX3_joined 64 = .ok (.iconst 1, 1) := by decide +kernel
theorem dX3_joined_65 : decode cX3_joined 65 = .ok (.goto 4, 3) := by decide +kernel
theorem dX3_joined_68 : decode cX3_joined 68 = .ok (.iconst 0, 1) := by decide +kernel
theorem dX3_joined_69 : decode cX3_joined 69 = .ok (.ireturn, 1) := by decide +kernel
theorem dX3_joined_70 : decode cX3_joined 70 = .ok (.iload_n 1, 1) := by decide +kernel
theorem dX3_joined_71 : decode cX3_joined 71 = .ok (.iload_n 2, 1) := by decide +kernel
theorem dX3_joined_72 : decode cX3_joined 72 = .ok (.iand, 1) := by decide +kernel
theorem dX3_joined_73 : decode cX3_joined 73 = .ok (.ireturn, 1) := by decide +kernel
theorem dX3_joined_74 : decode cX3_joined 74 = .ok (.iload_n 1, 1) := by decide +kernel
theorem dX3_joined_75 : decode cX3_joined 75 = .ok (.iload_n 2, 1) := by decide +kernel
theorem dX3_joined_76 : decode cX3_joined 76 = .ok (.ior, 1) := by decide +kernel
theorem dX3_joined_77 : decode cX3_joined 77 = .ok (.ireturn, 1) := by decide +kernel
theorem dX4_init_0 : decode cX4_init 0 = .ok (.aload_n 0, 1) := by decide +kernel
theorem dX4_init_1 : decode cX4_init 1 = .ok (.invokespecial 3, 3) := by decide +kernel
theorem dX4_init_4 : decode cX4_init 4 = .ok (.aload_n 0, 1) := by decide +kernel
theorem dX4_init_5 : decode cX4_init 5 = .ok (.aload_n 1, 1) := by decide +kernel
theorem dX4_init_6 : decode cX4_init 6 = .ok (.putfield 9, 3) := by decide +kernel
theorem dX4_init_9 : decode cX4_init 9 = .ok (.return_, 1) := by decide +kernel
theorem dX4_readLine_0 : decode cX4_readLine 0 = .ok (.aload_n 0, 1) := by decide +kernel
theorem dX4_readLine_1 : decode cX4_readLine 1 = .ok (.invokevirtual 15, 3) := by decide +kernel
theorem dX4_readLine_4 : decode cX4_readLine 4 = .ok (.istore_n 1, 1) := by decide +kernel
theorem dX4_readLine_5 : decode cX4_readLine 5 = .ok (.aload_n 0, 1) := by decide +kernel
theorem dX4_readLine_6 : decode cX4_readLine 6 = .ok (.sipush 1015, 3) := by decide +kernel
theorem dX4_readLine_9 : decode cX4_readLine 9 = .ok (.invokevirtual 19, 3) := by decide +kernel
theorem dX4_readLine_12 : decode cX4_readLine 12 = .ok (.ifCond .ne 25, 3) := by decide +kernel
theorem dX4_readLine_15 : decode cX4_readLine 15 = .ok (.aload_n 0, 1) := by decide +kernel
theorem dX4_readLine_16 : decode cX4_readLine 16 = .ok (.sipush 1002, 3) := by decide +kernel
theorem dX4_readLine_19 : decode cX4_readLine 19 = .ok (.invokevirtual 19, 3) := by decide +kernel
theorem dX4_readLine_22 : decode cX4_readLine 22 = .ok (.ifCond .ne 15, 3) := by decide +kernel
theorem dX4_readLine_25 : decode cX4_readLine 25 = .ok (.aload_n 0, 1) := by decide +kernel
theorem dX4_readLine_26 : decode cX4_readLine 26 = .ok (.sipush 1016, 3) := by decide +kernel
theorem dX4_readLine_29 : decode cX4_readLine 29 = .ok (.invokevirtual 19, 3) := by decide +kernel
theorem dX4_readLine_32 : decode cX4_readLine 32 = .ok (.ifCond .ne 5, 3) := by decide +kernel
theorem dX4_readLine_35 : decode cX4_readLine 35 = .ok (.iconst 0, 1) := by decide +kernel
theorem dX4_readLine_36 : decode cX4_readLine 36 = .ok (.ireturn, 1) := by decide +kernel
theorem dX4_readLine_37 : decode cX4_readLine 37 = .ok (.aload_n 0, 1) := by decide +kernel
theorem dX4_readLine_38 : decode cX4_readLine 38 = .ok (.bipush 100, 2) := by decide +kernel
theorem dX4_readLine_40 : decode cX4_readLine 40 = .ok (.invokevirtual 23, 3) := by decide +kernel
theorem dX4_readLine_43 : decode cX4_readLine 43 = .ok (.istore_n 2, 1) := by decide +kernel
theorem dX4_readLine_44 : decode cX4_readLine 44 = .ok (.iload_n 2, 1) := by decide +kernel
theorem dX4_readLine_45 : decode cX4_readLine 45 = .ok (.iconst (-1), 1) := by decide +kernel
theorem dX4_readLine_46 : decode cX4_readLine 46 = .ok (.if_icmp .ne 5, 3) := by decide +kernel
theorem dX4_readLine_49 : decode cX4_readLine 49 = .ok (.iconst 0, 1) := by decide +kernel
theorem dX4_readLine_50 : decode cX4_readLine 50 = .ok (.ireturn, 1) := by decide +kernel
theorem dX4_readLine_51 : decode cX4_readLine 51 = .ok (.aload_n 0, 1) := by decide +kernel
theorem dX4_readLine_52 : decode cX4_readLine 52 = .ok (.invokevirtual 27, 3) := by decide +kernel
theorem dX4_readLine_55 : decode cX4_readLine 55 = .ok (.aload_n 0, 1) := by decide +kernel
theorem dX4_readLine_56 : decode cX4_readLine 56 = .ok (.sipush 1014, 3) := by decide +kernel
theorem dX4_readLine_59 : decode cX4_readLine 59 = .ok (.invokevirtual 19, 3) := by decide +kernel
theorem dX4_readLine_62 : decode cX4_readLine 62 = .ok (.ifCond .eq 13, 3) := by decide +kernel
theorem dX4_readLine_65 : decode cX4_readLine 65 = .ok (.aload_n 0, 1) := by decide +kernel
theorem dX4_readLine_66 : decode cX4_readLine 66 = .ok (.iconst 0, 1) := by decide +kernel
theorem dX4_readLine_67 : decode cX4_readLine 67 = .ok (.invokevirtual 30, 3) := by decide +kernel
theorem dX4_readLine_70 : decode cX4_readLine 70 = .ok (.ifCond .ne 5, 3) := by decide +kernel
theorem dX4_readLine_73 : decode cX4_readLine 73 = .ok (.iconst 0, 1) := by decide +kernel
theorem dX4_readLine_74 : decode cX4_readLine 74 = .ok (.ireturn, 1) := by decide +kernel
theorem dX4_readLine_75 : decode cX4_readLine 75 = .ok (.aload_n 0, 1) := by decide +kernel
theorem dX4_readLine_76 : decode cX4_readLine 76 = .ok (.getfield 9, 3) := by decide +kernel
theorem dX4_readLine_79 : decode cX4_readLine 79 = .ok (.iload_n 1, 1) := by decide +kernel
theorem dX4_readLine_80 : decode cX4_readLine 80 = .ok (.sipush 1016, 3) := by decide +kernel
theorem dX4_readLine_83 : decode cX4_readLine 83 = .ok (.if_icmp .ne 7, 3) := by decide +kernel
theorem dX4_readLine_86 : decode cX4_readLine 86 = .ok (.iconst 1, 1) := by decide +kernel
theorem dX4_readLine_87 : decode cX4_readLine 87 = .ok (.goto 4, 3) := by decide +kernel
theorem dX4_readLine_90 : decode cX4_readLine 90 = .ok (.iconst 0, 1) := by decide +kernel
theorem dX4_readLine_91 : decode cX4_readLine 91 = .ok (.iload_n 1, 1) := by decide +kernel
theorem dX4_readLine_92 : decode cX4_readLine 92 = .ok (.sipush 1002, 3) := by decide +kernel
theorem dX4_readLine_95 : decode cX4_readLine 95 = .ok (.if_icmp .ne 8, 3) := by decide +kernel
theorem dX4_readLine_98 : decode cX4_readLine 98 = .ok (.iload_n 2, 1) := by decide +kernel
theorem dX4_readLine_99 : decode cX4_readLine 99 = .ok (.ineg, 1) := by decide +kernel
theorem dX4_readLine_100 : decode cX4_readLine 100 = .ok (.goto 4, 3) := by decide +kernel
theorem dX4_readLine_103 : decode cX4_readLine 103 = .ok (.iload_n 2, 1) := by decide +kernel
theorem dX4_readLine_104 : decode cX4_readLine 104 = .ok (.invokevirtual 33, 3) := by decide +kernel
theorem dX4_readLine_107 : decode cX4_readLine 107 = .ok (.ireturn, 1) := by decide +kernel
theorem dX4_readCondition_0 : decode cX4_readCondition 0 = .ok (.iconst 0, 1) := by decide +kernel
theorem dX4_readCondition_1 : decode cX4_readCondition 1 = .ok (.istore_n 2, 1) := by decide +kernel
theorem dX4_readCondition_2 : decode cX4_readCondition 2 = .ok (.iload_n 2, 1) := by decide +kernel
theorem dX4_readCondition_3 : decode cX4_readCondition 3 = .ok (.sipush 400, 3) := by decide +kernel
theorem dX4_readCondition_6 : decode cX4_readCondition 6 = .ok (.if_icmp .ge 48, 3) := by decide +kernel
theorem dX4_readCondition_9 : decode cX4_readCondition 9 = .ok (.aload_n 0, 1) := by decide +kernel
theorem dX4_readCondition_10 : decode cX4_readCondition 10 = .ok (.iload_n 1, 1) := by decide +kernel
theorem dX4_readCondition_11 : decode cX4_readCondition 11 = .ok (.invokevirtual 39, 3) := by decide +kernel
theorem dX4_readCondition_14 : decode cX4_readCondition 14 = .ok (.ifCond .eq 20, 3) := by decide +kernel
theorem dX4_readCondition_17 : decode cX4_readCondition 17 = .ok (.iload_n 2, 1) := by decide +kernel
theorem dX4_readCondition_18 : decode cX4_readCondition 18 = .ok (.ifCond .le 18, 3) := by decide +kernel
theorem dX4_readCondition_21 : decode cX4_readCondition 21 = .ok (.aload_n 0, 1) := by decide +kernel
theorem dX4_readCondition_22 : decode cX4_readCondition 22 = .ok (.getfield 9, 3) := by decide +kernel
theorem dX4_readCondition_25 : decode cX4_readCondition 25 = .ok (.sipush 1012, 3) := by decide +kernel
theorem dX4_readCondition_28 : decode cX4_readCondition 28 = .ok (.invokevirtual 42, 3) := by decide +kernel
theorem dX4_readCondition_31 : decode cX4_readCondition 31 = .ok (.ifCond .ne 5, 3) := by decide +kernel
theorem dX4_readCondition_34 : decode cX4_readCondition 34 = .ok (.iconst 0, 1) := by decide +kernel
theorem dX4_readCondition_35 : decode cX4_readCondition 35 = .ok (.ireturn, 1) := by decide +kernel
theorem dX4_readCondition_36 : decode cX4_readCondition 36 = .ok (.aload_n 0, 1) := by decide +kernel
theorem dX4_readCondition_37 : decode cX4_readCondition 37 = .ok (.sipush 1012, 3) := by decide +kernel
theorem dX4_readCondition_40 : decode cX4_readCondition 40 = .ok (.invokevirtual 19, 3) := by decide +kernel
theorem dX4_readCondition_43 : decode cX4_readCondition 43 = .ok (.ifCond .ne 5, 3) := by decide +kernel
theorem dX4_readCondition_46 : decode cX4_readCondition 46 = .ok (.iconst 1, 1) := by decide +kernel
theorem dX4_readCondition_47 : decode cX4_readCondition 47 = .ok (.ireturn, 1) := by decide +kernel
theorem dX4_readCondition_48 : decode cX4_readCondition 48 = .ok (.iinc 2 1, 3) := by decide +kernel
theorem dX4_readCondition_51 : decode cX4_readCondition 51 = .ok (.goto (-49), 3) := by decide +kernel
theorem dX4_readCondition_54 : decode cX4_readCondition 54 = .ok (.iconst 0, 1) := by decide +kernel
theorem dX4_readCondition_55 : decode cX4_readCondition 55 = .ok (.ireturn, 1) := by decide +kernel
theorem dX4_readAll_0 : decode cX4_readAll 0 = .ok (.iconst 0, 1) := by decide +kernel
theorem dX4_readAll_1 : decode cX4_readAll 1 = .ok (.istore_n 2, 1) := by decide +kernel
theorem dX4_readAll_2 : decode cX4_readAll 2 = .ok (.iload_n 2, 1) := by decide +kernel
theorem dX4_readAll_3 : decode cX4_readAll 3 = .ok (.sipush 400, 3) := by decide +kernel
theorem dX4_readAll_6 : decode cX4_readAll 6 = .ok (.if_icmp .ge 48, 3) := by decide +kernel
theorem dX4_readAll_9 : decode cX4_readAll 9 = .ok (.aload_n 0, 1) := by decide +kernel
theorem dX4_readAll_10 : decode cX4_readAll 10 = .ok (.iload_n 1, 1) := by decide +kernel
theorem dX4_readAll_11 : decode cX4_readAll 11 = .ok (.invokevirtual 45, 3) := by decide +kernel
theorem dX4_readAll_14 : decode cX4_readAll 14 = .ok (.ifCond .eq 20, 3) := by decide +kernel
theorem dX4_readAll_17 : decode cX4_readAll 17 = .ok (.iload_n 2, 1) := by decide +kernel
theorem dX4_readAll_18 : decode cX4_readAll 18 = .ok (.ifCond .le 18, 3) := by decide +kernel
theorem dX4_readAll_21 : decode cX4_readAll 21 = .ok (.aload_n 0, 1) := by decide +kernel
theorem dX4_readAll_22 : decode cX4_readAll 22 = .ok (.getfield 9, 3) := by decide +kernel
theorem dX4_readAll_25 : decode cX4_readAll 25 = .ok (.sipush 1011, 3) := by decide +kernel
theorem dX4_readAll_28 : decode cX4_readAll 28 = .ok (.invokevirtual 42, 3) := by decide +kernel
theorem dX4_readAll_31 : decode cX4_readAll 31 = .ok (.ifCond .ne 5, 3) := by decide +kernel
theorem dX4_readAll_34 : decode cX4_readAll 34 = .ok (.iconst 0, 1) := by decide +kernel
theorem dX4_readAll_35 : decode cX4_readAll 35 = .ok (.ireturn, 1) := by decide +kernel
theorem dX4_readAll_36 : decode cX4_readAll 36 = .ok (.aload_n 0, 1) := by decide +kernel
theorem dX4_readAll_37 : decode cX4_readAll 37 = .ok (.sipush 1011, 3) := by decide +kernel
theorem dX4_readAll_40 : decode cX4_readAll 40 = .ok (.invokevirtual 19, 3) := by decide +kernel
theorem dX4_readAll_43 : decode cX4_readAll 43 = .ok (.ifCond .ne 5, 3) := by decide +kernel
theorem dX4_readAll_46 : decode cX4_readAll 46 = .ok (.iconst 1, 1) := by decide +kernel
theorem dX4_readAll_47 : decode cX4_readAll 47 = .ok (.ireturn, 1) := by decide +kernel
theorem dX4_readAll_48 : decode cX4_readAll 48 = .ok (.iinc 2 1, 3) := by decide +kernel
theorem dX4_readAll_51 : decode cX4_readAll 51 = .ok (.goto (-49), 3) := by decide +kernel
theorem dX4_readAll_54 : decode cX4_readAll 54 = .ok (.iconst 0, 1) := by decide +kernel
theorem dX4_readAll_55 : decode cX4_readAll 55 = .ok (.ireturn, 1) := by decide +kernel
theorem dX4_readAtom_0 : decode cX4_readAtom 0 = .ok (.aload_n 0, 1) := by decide +kernel
theorem dX4_readAtom_1 : decode cX4_readAtom 1 = .ok (.invokevirtual 15, 3) := by decide +kernel
theorem dX4_readAtom_4 : decode cX4_readAtom 4 = .ok (.istore_n 2, 1) := by decide +kernel
theorem dX4_readAtom_5 : decode cX4_readAtom 5 = .ok (.iload_n 2, 1) := by decide +kernel
theorem dX4_readAtom_6 : decode cX4_readAtom 6 = .ok (.sipush 1013, 3) := by decide +kernel
theorem dX4_readAtom_9 : decode cX4_readAtom 9 = .ok (.if_icmp .eq 10, 3) := by decide +kernel
theorem dX4_readAtom_12 : decode cX4_readAtom 12 = .ok (.iload_n 2, 1) := by decide +kernel
theorem dX4_readAtom_13 : decode cX4_readAtom 13 = .ok (.sipush 1240, 3) := by decide +kernel
theorem dX4_readAtom_16 : decode cX4_readAtom 16 = .ok (.if_icmp .ne 25, 3) := by decide +kernel
theorem dX4_readAtom_19 : decode cX4_readAtom 19 = .ok (.iload_n 1, 1) := by decide +kernel
theorem dX4_readAtom_20 : decode cX4_readAtom 20 = .ok (.bipush 6, 2) := by decide +kernel
theorem dX4_readAtom_22 : decode cX4_readAtom 22 = .ok (.if_icmp .ge 17, 3) := by decide +kernel
theorem dX4_readAtom_25 : decode cX4_readAtom 25 = .ok (.aload_n 0, 1) := by decide +kernel
theorem dX4_readAtom_26 : decode cX4_readAtom 26 = .ok (.iload_n 1, 1) := by decide +kernel
theorem dX4_readAtom_27 : decode cX4_readAtom 27 = .ok (.iconst 1, 1) := by decide +kernel
theorem dX4_readAtom_28 : decode cX4_readAtom 28 = .ok (.iadd, 1) := by decide +kernel
theorem dX4_readAtom_29 : decode cX4_readAtom 29 = .ok (.invokevirtual 48, 3) := by decide +kernel
theorem dX4_readAtom_32 : decode cX4_readAtom 32 = .ok (.ifCond .eq 7, 3) := by decide +kernel
theorem dX4_readAtom_35 : decode cX4_readAtom 35 = .ok (.iconst 1, 1) := by decide +kernel
theorem dX4_readAtom_36 : decode cX4_readAtom 36 = .ok (.goto 4, 3) := by decide +kernel
theorem dX4_readAtom_39 : decode cX4_readAtom 39 = .ok (.iconst 0, 1) := by decide +kernel
theorem dX4_readAtom_40 : decode cX4_readAtom 40 = .ok (.ireturn, 1) := by decide +kernel
theorem dX4_readAtom_41 : decode cX4_readAtom 41 = .ok (.iload_n 2, 1) := by decide +kernel
theorem dX4_readAtom_42 : decode cX4_readAtom 42 = .ok (.sipush 1008, 3) := by decide +kernel
theorem dX4_readAtom_45 : decode cX4_readAtom 45 = .ok (.if_icmp .lt 23, 3) := by decide +kernel
theorem dX4_readAtom_48 : decode cX4_readAtom 48 = .ok (.iload_n 2, 1) := by decide +kernel
theorem dX4_readAtom_49 : decode cX4_readAtom 49 = .ok (.sipush 1010, 3) := by decide +kernel
theorem dX4_readAtom_52 : decode cX4_readAtom 52 = .ok (.if_icmp .gt 16, 3) := by decide +kernel
theorem dX4_readAtom_55 : decode cX4_readAtom 55 = .ok (.aload_n 0, 1) := by decide +kernel
theorem dX4_readAtom_56 : decode cX4_readAtom 56 = .ok (.invokevirtual 27, 3) := by decide +kernel
theorem dX4_readAtom_59 : decode cX4_readAtom 59 = .ok (.aload_n 0, 1) := by decide +kernel
theorem dX4_readAtom_60 : decode cX4_readAtom 60 = .ok (.getfield 9, 3) := by decide +kernel
theorem dX4_readAtom_63 : decode cX4_readAtom 63 = .ok (.iload_n 2, 1) := by decide +kernel
theorem dX4_readAtom_64 : decode cX4_readAtom 64 = .ok (.invokevirtual 42, 3) := by decide +kernel
theorem dX4_readAtom_67 : decode cX4_readAtom 67 = .ok (.ireturn, 1) := by decide +kernel
theorem dX4_readAtom_68 : decode cX4_readAtom 68 = .ok (.aload_n 0, 1) := by decide +kernel
theorem dX4_readAtom_69 : decode cX4_readAtom 69 = .ok (.invokevirtual 51, 3) := by decide +kernel
theorem dX4_readAtom_72 : decode cX4_readAtom 72 = .ok (.ifCond .ne 5, 3) := by decide +kernel
theorem dX4_readAtom_75 : decode cX4_readAtom 75 = .ok (.iconst 0, 1) := by decide +kernel
theorem dX4_readAtom_76 : decode cX4_readAtom 76 = .ok (.ireturn, 1) := by decide +kernel
theorem dX4_readAtom_77 : decode cX4_readAtom 77 = .ok (.aload_n 0, 1) := by decide +kernel
theorem dX4_readAtom_78 : decode cX4_readAtom 78 = .ok (.invokevirtual 15, 3) := by decide +kernel
theorem dX4_readAtom_81 : decode cX4_readAtom 81 = .ok (.istore_n 3, 1) := by decide +kernel
theorem dX4_readAtom_82 : decode cX4_readAtom 82 = .ok (.aload_n 0, 1) := by decide +kernel
theorem dX4_readAtom_83 : decode cX4_readAtom 83 = .ok (.sipush 1260, 3) := by decide +kernel
theorem dX4_readAtom_86 : decode cX4_readAtom 86 = .ok (.invokevirtual 19, 3) := by decide +kernel
theorem dX4_readAtom_89 : decode cX4_readAtom 89 = .ok (.ifCond .ne 15, 3) := by decide +kernel
theorem dX4_readAtom_92 : decode cX4_readAtom 92 = .ok (.aload_n 0, 1) := by decide +kernel
theorem dX4_readAtom_93 : decode cX4_readAtom 93 = .ok (.sipush 1262, 3) := by decide +kernel
theorem dX4_readAtom_96 : decode cX4_readAtom 96 = .ok (.invokevirtual 19, 3) := by decide +kernel
theorem dX4_readAtom_99 : decode cX4_readAtom 99 = .ok (.ifCond .ne 5, 3) := by decide +kernel
theorem dX4_readAtom_102 : decode cX4_readAtom 102 = .ok (.iconst 0, 1) := by decide +kernel
theorem dX4_readAtom_103 : decode cX4_readAtom 103 = .ok (.ireturn, 1) := by decide +kernel
theorem dX4_readAtom_104 : decode cX4_readAtom 104 = .ok (.aload_n 0, 1) := by decide +kernel
theorem dX4_readAtom_105 : decode cX4_readAtom 105 = .ok (.invokevirtual 51, 3) := by decide +kernel
theorem dX4_readAtom_108 : decode cX4_readAtom 108 = .ok (.ifCond .eq 18, 3) := by decide +kernel
theorem dX4_readAtom_111 : decode cX4_readAtom 111 = .ok (.aload_n 0, 1) := by decide +kernel
theorem dX4_readAtom_112 : decode cX4_readAtom 112 = .ok (.getfield 9, 3) := by decide +kernel
theorem dX4_readAtom_115 : decode cX4_readAtom 115 = .ok (.iload_n 3, 1) := by decide +kernel
theorem dX4_readAtom_116 : decode cX4_readAtom 116 = .ok (.invokevirtual 42, 3) := by decide +kernel
theorem dX4_readAtom_119 : decode cX4_readAtom 119 = .ok (.ifCond .eq 7, 3) := by decide +kernel
theorem dX4_readAtom_122 : decode cX4_readAtom 122 = .ok (.iconst 1, 1) := by decide +kernel
theorem dX4_readAtom_123 : decode cX4_readAtom 123 = .ok (.goto 4, 3) := by decide +kernel
theorem dX4_readAtom_126 : decode cX4_readAtom 126 = .ok (.iconst 0, 1) := by decide +kernel
theorem dX4_readAtom_127 : decode cX4_readAtom 127 = .ok (.ireturn, 1) := by decide +kernel
theorem dX4_readDeeper_0 : decode cX4_readDeeper 0 = .ok (.aload_n 0, 1) := by decide +kernel
theorem dX4_readDeeper_1 : decode cX4_readDeeper 1 = .ok (.sipush 1013, 3) := by decide +kernel
theorem dX4_readDeeper_4 : decode cX4_readDeeper 4 = .ok (.invokevirtual 19, 3) := by decide +kernel
theorem dX4_readDeeper_7 : decode cX4_readDeeper 7 = .ok (.ifCond .eq 30, 3) := by decide +kernel
theorem dX4_readDeeper_10 : decode cX4_readDeeper 10 = .ok (.aload_n 0, 1) := by decide +kernel
theorem dX4_readDeeper_11 : decode cX4_readDeeper 11 = .ok (.iload_n 1, 1) := by decide +kernel
theorem dX4_readDeeper_12 : decode cX4_readDeeper 12 = .ok (.invokevirtual 45, 3) := by decide +kernel
theorem dX4_readDeeper_15 : decode cX4_readDeeper 15 = .ok (.ifCond .eq 20, 3) := by decide +kernel
theorem dX4_readDeeper_18 : decode cX4_readDeeper 18 = .ok (.aload_n 0, 1) := by decide +kernel
theorem dX4_readDeeper_19 : decode cX4_readDeeper 19 = .ok (.getfield 9, 3) := by decide +kernel
theorem dX4_readDeeper_22 : decode cX4_readDeeper 22 = .ok (.sipush 1013, 3) := by decide +kernel
theorem dX4_readDeeper_25 : decode cX4_readDeeper 25 = .ok (.invokevirtual 42, 3) := by decide +kernel
theorem dX4_readDeeper_28 : decode cX4_readDeeper 28 = .ok (.ifCond .eq 7, 3) := by decide +kernel
theorem dX4_readDeeper_31 : decode cX4_readDeeper 31 = .ok (.iconst 1, 1) := by decide +kernel
theorem dX4_readDeeper_32 : decode cX4_readDeeper 32 = .ok (.goto 4, 3) := by decide +kernel
theorem dX4_readDeeper_35 : decode cX4_readDeeper 35 = .ok (.iconst 0, 1) := by decide +kernel
theorem dX4_readDeeper_36 : decode cX4_readDeeper 36 = .ok (.ireturn, 1) := by decide +kernel
theorem dX4_readDeeper_37 : decode cX4_readDeeper 37 = .ok (.aload_n 0, 1) := by decide +kernel
theorem dX4_readDeeper_38 : decode cX4_readDeeper 38 = .ok (.sipush 1240, 3) := by decide +kernel
theorem dX4_readDeeper_41 : decode cX4_readDeeper 41 = .ok (.invokevirtual 19, 3) := by decide +kernel
theorem dX4_readDeeper_44 : decode cX4_readDeeper 44 = .ok (.ifCond .eq 25, 3) := by decide +kernel
theorem dX4_readDeeper_47 : decode cX4_readDeeper 47 = .ok (.aload_n 0, 1) := by decide +kernel
theorem dX4_readDeeper_48 : decode cX4_readDeeper 48 = .ok (.iload_n 1, 1) := by decide +kernel
theorem dX4_readDeeper_49 : decode cX4_readDeeper 49 = .ok (.invokevirtual 30, 3) := by decide +kernel
theorem dX4_readDeeper_52 : decode cX4_readDeeper 52 = .ok (.ifCond .eq 17, 3) := by decide +kernel
theorem dX4_readDeeper_55 : decode cX4_readDeeper 55 = .ok (.aload_n 0, 1) := by decide +kernel
theorem dX4_readDeeper_56 : decode cX4_readDeeper 56 = .ok (.sipush 1241, 3) := by decide +kernel
theorem dX4_readDeeper_59 : decode cX4_readDeeper 59 = .ok (.invokevirtual 19, 3) := by decide +kernel
theorem dX4_readDeeper_62 : decode cX4_readDeeper 62 = .ok (.ifCond .eq 7, 3) := by decide +kernel
theorem dX4_readDeeper_65 : decode cX4_readDeeper 65 = .ok (.iconst 1, 1) := by decide +kernel
theorem dX4_readDeeper_66 : decode cX4_readDeeper 66 = .ok (.goto 4, 3) := by decide +kernel
theorem dX4_readDeeper_69 : decode cX4_readDeeper 69 = .ok (.iconst 0, 1) := by decide +kernel
theorem dX4_readDeeper_70 : decode cX4_readDeeper 70 = .ok (.ireturn, 1) := by decide +kernel
theorem dX4_readSum_0 : decode cX4_readSum 0 = .ok (.iconst 0, 1) := by decide +kernel
theorem dX4_readSum_1 : decode cX4_readSum 1 = .ok (.istore_n 1, 1) := by decide +kernel
theorem dX4_readSum_2 : decode cX4_readSum 2 = .ok (.iload_n 1, 1) := by decide +kernel
theorem dX4_readSum_3 : decode cX4_readSum 3 = .ok (.sipush 400, 3) := by decide +kernel
theorem dX4_readSum_6 : decode cX4_readSum 6 = .ok (.if_icmp .ge 73, 3) := by decide +kernel
theorem dX4_readSum_9 : decode cX4_readSum 9 = .ok (.aload_n 0, 1) := by decide +kernel
theorem dX4_readSum_10 : decode cX4_readSum 10 = .ok (.invokevirtual 15, 3) := by decide +kernel
theorem dX4_readSum_13 : decode cX4_readSum 13 = .ok (.istore_n 2, 1) := by decide +kernel
theorem dX4_readSum_14 : decode cX4_readSum 14 = .ok (.iload_n 2, 1) := by decide +kernel
theorem dX4_readSum_15 : decode cX4_readSum 15 = .ok (.ifCond .lt 10, 3) := by decide +kernel
theorem dX4_readSum_18 : decode cX4_readSum 18 = .ok (.iload_n 2, 1) := by decide +kernel
theorem dX4_readSum_19 : decode cX4_readSum 19 = .ok (.sipush 1007, 3) := by decide +kernel
theorem dX4_readSum_22 : decode cX4_readSum 22 = .ok (.if_icmp .le 5, 3) := by decide +kernel
theorem dX4_readSum_25 : decode cX4_readSum 25 = .ok (.iconst 0, 1) := by decide +kernel
theorem dX4_readSum_26 : decode cX4_readSum 26 = .ok (.ireturn, 1) := by decide +kernel
theorem dX4_readSum_27 : decode cX4_readSum 27 = .ok (.aload_n 0, 1) := by decide +kernel
theorem dX4_readSum_28 : decode cX4_readSum 28 = .ok (.getfield 9, 3) := by decide +kernel
theorem dX4_readSum_31 : decode cX4_readSum 31 = .ok (.iload_n 2, 1) := by decide +kernel
theorem dX4_readSum_32 : decode cX4_readSum 32 = .ok (.invokevirtual 42, 3) := by decide +kernel
theorem dX4_readSum_35 : decode cX4_readSum 35 = .ok (.ifCond .eq 20, 3) := by decide +kernel
theorem dX4_readSum_38 : decode cX4_readSum 38 = .ok (.iload_n 1, 1) := by decide +kernel
theorem dX4_readSum_39 : decode cX4_readSum 39 = .ok (.ifCond .le 18, 3) := by decide +kernel
theorem dX4_readSum_42 : decode cX4_readSum 42 = .ok (.aload_n 0, 1) := by decide +kernel
theorem dX4_readSum_43 : decode cX4_readSum 43 = .ok (.getfield 9, 3) := by decide +kernel
theorem dX4_readSum_46 : decode cX4_readSum 46 = .ok (.sipush 1243, 3) := by decide +kernel
theorem dX4_readSum_49 : decode cX4_readSum 49 = .ok (.invokevirtual 42, 3) := by decide +kernel
theorem dX4_readSum_52 : decode cX4_readSum 52 = .ok (.ifCond .ne 5, 3) := by decide +kernel
theorem dX4_readSum_55 : decode cX4_readSum 55 = .ok (.iconst 0, 1) := by decide +kernel
theorem dX4_readSum_56 : decode cX4_readSum 56 = .ok (.ireturn, 1) := by decide +kernel
theorem dX4_readSum_57 : decode cX4_readSum 57 = .ok (.aload_n 0, 1) := by decide +kernel
theorem dX4_readSum_58 : decode cX4_readSum 58 = .ok (.invokevirtual 27, 3) := by decide +kernel
theorem dX4_readSum_61 : decode cX4_readSum 61 = .ok (.aload_n 0, 1) := by decide +kernel
theorem dX4_readSum_62 : decode cX4_readSum 62 = .ok (.sipush 1243, 3) := by decide +kernel
theorem dX4_readSum_65 : decode cX4_readSum 65 = .ok (.invokevirtual 19, 3) := by decide +kernel
theorem dX4_readSum_68 : decode cX4_readSum 68 = .ok (.ifCond .ne 5, 3) := by decide +kernel
theorem dX4_readSum_71 : decode cX4_readSum 71 = .ok (.iconst 1, 1) := by decide +kernel
theorem dX4_readSum_72 : decode cX4_readSum 72 = .ok (.ireturn, 1) := by decide +kernel
theorem dX4_readSum_73 : decode cX4_readSum 73 = .ok (.iinc 1 1, 3) := by decide +kernel
theorem dX4_readSum_76 : decode cX4_readSum 76 = .ok (.goto (-74), 3) := by decide +kernel
theorem dX4_readSum_79 : decode cX4_readSum 79 = .ok (.iconst 0, 1) := by decide +kernel
theorem dX4_readSum_80 : decode cX4_readSum 80 = .ok (.ireturn, 1) := by decide +kernel
theorem dX5_init_0 : decode cX5_init 0 = .ok (.aload_n 0, 1) := by decide +kernel
theorem dX5_init_1 : decode cX5_init 1 = .ok (.invokespecial 3, 3) := by decide +kernel
theorem dX5_init_4 : decode cX5_init 4 = .ok (.aload_n 0, 1) := by decide +kernel
theorem dX5_init_5 : decode cX5_init 5 = .ok (.bipush 8, 2) := by decide +kernel
theorem dX5_init_7 : decode cX5_init 7 = .ok (.newarray .int, 2) := by decide +kernel
theorem dX5_init_9 : decode cX5_init 9 = .ok (.putfield 9, 3) := by decide +kernel
theorem dX5_init_12 : decode cX5_init 12 = .ok (.aload_n 0, 1) := by decide +kernel
theorem dX5_init_13 : decode cX5_init 13 = .ok (.bipush 8, 2) := by decide +kernel
theorem dX5_init_15 : decode cX5_init 15 = .ok (.newarray .int, 2) := by decide +kernel
theorem dX5_init_17 : decode cX5_init 17 = .ok (.putfield 15, 3) := by decide +kernel
theorem dX5_init_20 : decode cX5_init 20 = .ok (.aload_n 0, 1) := by decide +kernel
theorem dX5_init_21 : decode cX5_init 21 = .ok (.bipush 8, 2) := by decide +kernel
theorem dX5_init_23 : decode cX5_init 23 = .ok (.newarray .int, 2) := by decide +kernel
theorem dX5_init_25 : decode cX5_init 25 = .ok (.putfield 18, 3) := by decide +kernel
theorem dX5_init_28 : decode cX5_init 28 = .ok (.aload_n 0, 1) := by decide +kernel
theorem dX5_init_29 : decode cX5_init 29 = .ok (.bipush 8, 2) := by decide +kernel
theorem dX5_init_31 : decode cX5_init 31 = .ok (.newarray .int, 2) := by decide +kernel
theorem dX5_init_33 : decode cX5_init 33 = .ok (.putfield 21, 3) := by decide +kernel
theorem dX5_init_36 : decode cX5_init 36 = .ok (.return_, 1) := by decide +kernel
theorem dX5_settleGifts_0 : decode cX5_settleGifts 0 = .ok (.iconst 0, 1) := by decide +kernel
theorem dX5_settleGifts_1 : decode cX5_settleGifts 1 = .ok (.istore_n 2, 1) := by decide +kernel
theorem dX5_settleGifts_2 : decode cX5_settleGifts 2 = .ok (.iconst 0, 1) := by decide +kernel
theorem dX5_settleGifts_3 : decode cX5_settleGifts 3 = .ok (.istore_n 3, 1) := by decide +kernel
theorem dX5_settleGifts_4 : decode cX5_settleGifts 4 = .ok (.iconst 0, 1) := by decide +kernel
theorem dX5_settleGifts_5 : decode cX5_settleGifts 5 = .ok (.istore 4, 2) := by decide +kernel
theorem dX5_settleGifts_7 : decode cX5_settleGifts 7 = .ok (.iload 4, 2) := by decide +kernel
theorem dX5_settleGifts_9 : decode cX5_settleGifts 9 = .ok (.aload_n 1, 1) := by decide +kernel
theorem dX5_settleGifts_10 : decode cX5_settleGifts 10 = .ok (.getfield 24, 3) := by decide +kernel
theorem dX5_settleGifts_13 : decode cX5_settleGifts 13 = .ok (.if_icmp .ge 49, 3) := by decide +kernel
theorem dX5_settleGifts_16 : decode cX5_settleGifts 16 = .ok (.aload_n 0, 1) := by decide +kernel
theorem dX5_settleGifts_17 : decode cX5_settleGifts 17 = .ok (.getfield 9, 3) := by decide +kernel
theorem dX5_settleGifts_20 : decode cX5_settleGifts 20 = .ok (.iload 4, 2) := by decide +kernel
theorem dX5_settleGifts_22 : decode cX5_settleGifts 22 = .ok (.aload_n 1, 1) := by decide +kernel
theorem dX5_settleGifts_23 : decode cX5_settleGifts 23 = .ok (.iload 4, 2) := by decide +kernel
theorem dX5_settleGifts_25 : decode cX5_settleGifts 25 = .ok (.iload_n 3, 1) := by decide +kernel
theorem dX5_settleGifts_26 : decode cX5_settleGifts 26 = .ok (.invokestatic 30, 3) := by decide +kernel
theorem dX5_settleGifts_29 : decode cX5_settleGifts 29 = .ok (.iastore, 1) := by decide +kernel
theorem dX5_settleGifts_30 : decode cX5_settleGifts 30 = .ok (.aload_n 0, 1) := by decide +kernel
theorem dX5_settleGifts_31 : decode cX5_settleGifts 31 = .ok (.getfield 9, 3) := by decide +kernel
theorem dX5_settleGifts_34 : decode cX5_settleGifts 34 = .ok (.iload 4, 2) := by decide +kernel
theorem dX5_settleGifts_36 : decode cX5_settleGifts 36 = .ok (.iaload, 1) := by decide +kernel
theorem dX5_settleGifts_37 : decode cX5_settleGifts 37 = .ok (.iconst (-1), 1) := by decide +kernel
theorem dX5_settleGifts_38 : decode cX5_settleGifts 38 = .ok (.if_icmp .eq 18, 3) := by decide +kernel
theorem dX5_settleGifts_41 : decode cX5_settleGifts 41 = .ok (.iload_n 3, 1) := by decide +kernel
theorem dX5_settleGifts_42 : decode cX5_settleGifts 42 = .ok (.iconst 1, 1) := by decide +kernel
theorem dX5_settleGifts_43 : decode cX5_settleGifts 43 = .ok (.aload_n 0, 1) := by decide +kernel
theorem dX5_settleGifts_44 : decode cX5_settleGifts 44 = .ok (.getfield 9, 3) := by decide +kernel
theorem dX5_settleGifts_47 : decode cX5_settleGifts 47 = .ok (.iload 4, 2) := by decide +kernel
theorem dX5_settleGifts_49 : decode cX5_settleGifts 49 = .ok (.iaload, 1) := by decide +kernel
theorem dX5_settleGifts_50 : decode cX5_settleGifts 50 = .ok (.ishl, 1) := by decide +kernel
theorem dX5_settleGifts_51 : decode cX5_settleGifts 51 = .ok (.ior, 1) := by decide +kernel
theorem dX5_settleGifts_52 : decode cX5_settleGifts 52 = .ok (.istore_n 3, 1) := by decide +kernel
theorem dX5_settleGifts_53 : decode cX5_settleGifts 53 = .ok (.iinc 2 1, 3) := by decide +kernel
theorem dX5_settleGifts_56 : decode cX5_settleGifts 56 = .ok (.iinc 4 1, 3) := by decide +kernel
theorem dX5_settleGifts_59 : decode cX5_settleGifts 59 = .ok (.goto (-52), 3) := by decide +kernel
theorem dX5_settleGifts_62 : decode cX5_settleGifts 62 = .ok (.iload_n 2, 1) := by decide +kernel
theorem dX5_settleGifts_63 : decode cX5_settleGifts 63 = .ok (.ireturn, 1) := by decide +kernel
theorem dX5_takerOf_0 : decode cX5_takerOf 0 = .ok (.aload_n 0, 1) := by decide +kernel
theorem dX5_takerOf_1 : decode cX5_takerOf 1 = .ok (.getfield 34, 3) := by decide +kernel
theorem dX5_takerOf_4 : decode cX5_takerOf 4 = .ok (.iconst 5, 1) := by decide +kernel
theorem dX5_takerOf_5 : decode cX5_takerOf 5 = .ok (.aaload, 1) := by decide +kernel
theorem dX5_takerOf_6 : decode cX5_takerOf 6 = .ok (.iload_n 1, 1) := by decide +kernel
theorem dX5_takerOf_7 : decode cX5_takerOf 7 = .ok (.iaload, 1) := by decide +kernel
theorem dX5_takerOf_8 : decode cX5_takerOf 8 = .ok (.istore_n 3, 1) := by decide +kernel
theorem dX5_takerOf_9 : decode cX5_takerOf 9 = .ok (.iload_n 3, 1) := by decide +kernel
theorem dX5_takerOf_10 : decode cX5_takerOf 10 = .ok (.iconst (-1), 1) := by decide +kernel
theorem dX5_takerOf_11 : decode cX5_takerOf 11 = .ok (.if_icmp .ne 5, 3) := by decide +kernel
theorem dX5_takerOf_14 : decode cX5_takerOf 14 = .ok (.iconst (-1), 1) := by decide +kernel
theorem dX5_takerOf_15 : decode cX5_takerOf 15 = .ok (.ireturn, 1) := by decide +kernel
theorem dX5_takerOf_16 : decode cX5_takerOf 16 = .ok (.aload_n 0, 1) := by decide +kernel
theorem dX5_takerOf_17 : decode cX5_takerOf 17 = .ok (.iconst 4, 1) := by decide +kernel
theorem dX5_takerOf_18 : decode cX5_takerOf 18 = .ok (.iload_n 3, 1) := by decide +kernel
theorem dX5_takerOf_19 : decode cX5_takerOf 19 = .ok (.invokevirtual 38, 3) := by decide +kernel
theorem dX5_takerOf_22 : decode cX5_takerOf 22 = .ok (.iload_n 2, 1) := by decide +kernel
theorem dX5_takerOf_23 : decode cX5_takerOf 23 = .ok (.iconst (-1), 1) := by decide +kernel
theorem dX5_takerOf_24 : decode cX5_takerOf 24 = .ok (.ixor, 1) := by decide +kernel
theorem dX5_takerOf_25 : decode cX5_takerOf 25 = .ok (.iand, 1) := by decide +kernel
theorem dX5_takerOf_26 : decode cX5_takerOf 26 = .ok (.istore 4, 2) := by decide +kernel
theorem dX5_takerOf_28 : decode cX5_takerOf 28 = .ok (.iload 4, 2) := by decide +kernel
theorem dX5_takerOf_30 : decode cX5_takerOf 30 = .ok (.iload_n 1, 1) := by decide +kernel
theorem dX5_takerOf_31 : decode cX5_takerOf 31 = .ok (.ishr, 1) := by decide +kernel
theorem dX5_takerOf_32 : decode cX5_takerOf 32 = .ok (.iconst 1, 1) := by decide +kernel
theorem dX5_takerOf_33 : decode cX5_takerOf 33 = .ok (.iand, 1) := by decide +kernel
theorem dX5_takerOf_34 : decode cX5_takerOf 34 = .ok (.ifCond .eq 5, 3) := by decide +kernel
theorem dX5_takerOf_37 : decode cX5_takerOf 37 = .ok (.iload_n 1, 1) := by decide +kernel
theorem dX5_takerOf_38 : decode cX5_takerOf 38 = .ok (.ireturn, 1) := by decide +kernel
theorem dX5_takerOf_39 : decode cX5_takerOf 39 = .ok (.iload 4, 2) := by decide +kernel
theorem dX5_takerOf_41 : decode cX5_takerOf 41 = .ok (.invokestatic 42, 3) := by decide +kernel
theorem dX5_takerOf_44 : decode cX5_takerOf 44 = .ok (.ireturn, 1) := by decide +kernel
theorem dX5_settleTrade_0 : decode cX5_settleTrade 0 = .ok (.iconst 0, 1) := by decide +kernel
theorem dX5_settleTrade_1 : decode cX5_settleTrade 1 = .ok (.istore_n 2, 1) := by decide +kernel
theorem dX5_settleTrade_2 : decode cX5_settleTrade 2 = .ok (.iload_n 2, 1) := by decide +kernel
theorem dX5_settleTrade_3 : decode cX5_settleTrade 3 = .ok (.bipush 8, 2) := by decide +kernel
theorem dX5_settleTrade_5 : decode cX5_settleTrade 5 = .ok (.if_icmp .ge 30, 3) := by decide +kernel
theorem dX5_settleTrade_8 : decode cX5_settleTrade 8 = .ok (.aload_n 0, 1) := by decide +kernel
theorem dX5_settleTrade_9 : decode cX5_settleTrade 9 = .ok (.getfield 15, 3) := by decide +kernel
theorem dX5_settleTrade_12 : decode cX5_settleTrade 12 = .ok (.iload_n 2, 1) := by decide +kernel
theorem dX5_settleTrade_13 : decode cX5_settleTrade 13 = .ok (.iconst (-1), 1) := by decide +kernel
theorem dX5_settleTrade_14 : decode cX5_settleTrade 14 = .ok (.iastore, 1) := by decide +kernel
theorem dX5_settleTrade_15 : decode cX5_settleTrade 15 = .ok (.aload_n 0, 1) := by decide +kernel
theorem dX5_settleTrade_16 : decode cX5_settleTrade 16 = .ok (.getfield 18, 3) := by decide +kernel
theorem dX5_settleTrade_19 : decode cX5_settleTrade 19 = .ok (.iload_n 2, 1) := by decide +kernel
theorem dX5_settleTrade_20 : decode cX5_settleTrade 20 = .ok (.iconst 0, 1) := by decide +kernel
theorem dX5_settleTrade_21 : decode cX5_settleTrade 21 = .ok (.iastore, 1) := by decide +kernel
theorem dX5_settleTrade_22 : decode cX5_settleTrade 22 = .ok (.aload_n 0, 1) := by decide +kernel
theorem dX5_settleTrade_23 : decode cX5_settleTrade 23 = .ok (.getfield 21, 3) := by decide +kernel
theorem dX5_settleTrade_26 : decode cX5_settleTrade 26 = .ok (.iload_n 2, 1) := by decide +kernel
theorem dX5_settleTrade_27 : decode cX5_settleTrade 27 = .ok (.iload_n 2, 1) := by decide +kernel
theorem dX5_settleTrade_28 : decode cX5_settleTrade 28 = .ok (.iastore, 1) := by decide +kernel
theorem dX5_settleTrade_29 : decode cX5_settleTrade 29 = .ok (.iinc 2 1, 3) := by decide +kernel
theorem dX5_settleTrade_32 : decode cX5_settleTrade 32 = .ok (.goto (-30), 3) := by decide +kernel
theorem dX5_settleTrade_35 : decode cX5_settleTrade 35 = .ok (.aload_n 1, 1) := by decide +kernel
theorem dX5_settleTrade_36 : decode cX5_settleTrade 36 = .ok (.invokevirtual 46, 3) := by decide +kernel
theorem dX5_settleTrade_39 : decode cX5_settleTrade 39 = .ok (.aload_n 1, 1) := by decide +kernel
theorem dX5_settleTrade_40 : decode cX5_settleTrade 40 = .ok (.iconst 5, 1) := by decide +kernel
theorem dX5_settleTrade_41 : decode cX5_settleTrade 41 = .ok (.iconst (-1), 1) := by decide +kernel
theorem dX5_settleTrade_42 : decode cX5_settleTrade 42 = .ok (.invokevirtual 38, 3) := by decide +kernel
theorem dX5_settleTrade_45 : decode cX5_settleTrade 45 = .ok (.iconst (-1), 1) := by decide +kernel
theorem dX5_settleTrade_46 : decode cX5_settleTrade 46 = .ok (.ixor, 1) := by decide +kernel
theorem dX5_settleTrade_47 : decode cX5_settleTrade 47 = .ok (.iand, 1) := by decide +kernel
theorem dX5_settleTrade_48 : decode cX5_settleTrade 48 = .ok (.istore_n 2, 1) := by decide +kernel
theorem dX5_settleTrade_49 : decode cX5_settleTrade 49 = .ok (.iconst 0, 1) := by decide +kernel
theorem dX5_settleTrade_50 : decode cX5_settleTrade 50 = .ok (.istore_n 3, 1) := by decide +kernel
theorem dX5_settleTrade_51 : decode cX5_settleTrade 51 = .ok (.iload_n 3, 1) := by decide +kernel
theorem dX5_settleTrade_52 : decode cX5_settleTrade 52 = .ok (.bipush 8, 2) := by decide +kernel
theorem dX5_settleTrade_54 : decode cX5_settleTrade 54 = .ok (.if_icmp .ge 30, 3) := by decide +kernel
theorem dX5_settleTrade_57 : decode cX5_settleTrade 57 = .ok (.iload_n 2, 1) := by decide +kernel
theorem dX5_settleTrade_58 : decode cX5_settleTrade 58 = .ok (.ifCond .eq 26, 3) := by decide +kernel
theorem dX5_settleTrade_61 : decode cX5_settleTrade 61 = .ok (.aload_n 0, 1) := by decide +kernel
theorem dX5_settleTrade_62 : decode cX5_settleTrade 62 = .ok (.aload_n 1, 1) := by decide +kernel
theorem dX5_settleTrade_63 : decode cX5_settleTrade 63 = .ok (.iload_n 2, 1) := by decide +kernel
theorem dX5_settleTrade_64 : decode cX5_settleTrade 64 = .ok (.invokevirtual 50, 3) := by decide +kernel
theorem dX5_settleTrade_67 : decode cX5_settleTrade 67 = .ok (.iload_n 2, 1) := by decide +kernel
theorem dX5_settleTrade_68 : decode cX5_settleTrade 68 = .ok (.aload_n 0, 1) := by decide +kernel
theorem dX5_settleTrade_69 : decode cX5_settleTrade 69 = .ok (.aload_n 1, 1) := by decide +kernel
theorem dX5_settleTrade_70 : decode cX5_settleTrade 70 = .ok (.iload_n 2, 1) := by decide +kernel
theorem dX5_settleTrade_71 : decode cX5_settleTrade 71 = .ok (.invokevirtual 54, 3) := by decide +kernel
theorem dX5_settleTrade_74 : decode cX5_settleTrade 74 = .ok (.iconst (-1), 1) := by decide +kernel
theorem dX5_settleTrade_75 : decode cX5_settleTrade 75 = .ok (.ixor, 1) := by decide +kernel
theorem dX5_settleTrade_76 : decode cX5_settleTrade 76 = .ok (.iand, 1) := by decide +kernel
theorem dX5_settleTrade_77 : decode cX5_settleTrade 77 = .ok (.istore_n 2, 1) := by decide +kernel
theorem dX5_settleTrade_78 : decode cX5_settleTrade 78 = .ok (.iinc 3 1, 3) := by decide +kernel
theorem dX5_settleTrade_81 : decode cX5_settleTrade 81 = .ok (.goto (-30), 3) := by decide +kernel
theorem dX5_settleTrade_84 : decode cX5_settleTrade 84 = .ok (.return_, 1) := by decide +kernel
theorem dX5_pointAll_0 : decode cX5_pointAll 0 = .ok (.iconst 0, 1) := by decide +kernel
theorem dX5_pointAll_1 : decode cX5_pointAll 1 = .ok (.istore_n 3, 1) := by decide +kernel
theorem dX5_pointAll_2 : decode cX5_pointAll 2 = .ok (.iload_n 3, 1) := by decide +kernel
theorem dX5_pointAll_3 : decode cX5_pointAll 3 = .ok (.aload_n 1, 1) := by decide +kernel
theorem dX5_pointAll_4 : decode cX5_pointAll 4 = .ok (.getfield 24, 3) := by decide +kernel
theorem dX5_pointAll_7 : decode cX5_pointAll 7 = .ok (.if_icmp .ge 29, 3) := by decide +kernel
theorem dX5_pointAll_10 : decode cX5_pointAll 10 = .ok (.iload_n 2, 1) := by decide +kernel
theorem dX5_pointAll_11 : decode cX5_pointAll 11 = .ok (.iload_n 3, 1) := by decide +kernel
theorem dX5_pointAll_12 : decode cX5_pointAll 12 = .ok (.ishr, 1) := by decide +kernel
theorem dX5_pointAll_13 : decode cX5_pointAll 13 = .ok (.iconst 1, 1) := by decide +kernel
theorem dX5_pointAll_14 : decode cX5_pointAll 14 = .ok (.iand, 1) := by decide +kernel
theorem dX5_pointAll_15 : decode cX5_pointAll 15 = .ok (.ifCond .eq 15, 3) := by decide +kernel
theorem dX5_pointAll_18 : decode cX5_pointAll 18 = .ok (.aload_n 0, 1) := by decide +kernel
theorem dX5_pointAll_19 : decode cX5_pointAll 19 = .ok (.getfield 21, 3) := by decide +kernel
theorem dX5_pointAll_22 : decode cX5_pointAll 22 = .ok (.iload_n 3, 1) := by decide +kernel
theorem dX5_pointAll_23 : decode cX5_pointAll 23 = .ok (.aload_n 1, 1) := by decide +kernel
theorem dX5_pointAll_24 : decode cX5_pointAll 24 = .ok (.iload_n 3, 1) := by decide +kernel
theorem dX5_pointAll_25 : decode cX5_pointAll 25 = .ok (.iload_n 2, 1) := by decide +kernel
theorem dX5_pointAll_26 : decode cX5_pointAll 26 = .ok (.invokestatic 58, 3) := by decide +kernel
theorem dX5_pointAll_29 : decode cX5_pointAll 29 = .ok (.iastore, 1) := by decide +kernel
theorem dX5_pointAll_30 : decode cX5_pointAll 30 = .ok (.iinc 3 1, 3) := by decide +kernel
theorem dX5_pointAll_33 : decode cX5_pointAll 33 = .ok (.goto (-31), 3) := by decide +kernel
theorem dX5_pointAll_36 : decode cX5_pointAll 36 = .ok (.return_, 1) := by decide +kernel
theorem dX5_rathest_0 : decode cX5_rathest 0 = .ok (.iload_n 1, 1) := by decide +kernel
theorem dX5_rathest_1 : decode cX5_rathest 1 = .ok (.istore_n 3, 1) := by decide +kernel
theorem dX5_rathest_2 : decode cX5_rathest 2 = .ok (.iconst 0, 1) := by decide +kernel
theorem dX5_rathest_3 : decode cX5_rathest 3 = .ok (.istore 4, 2) := by decide +kernel
theorem dX5_rathest_5 : decode cX5_rathest 5 = .ok (.iload 4, 2) := by decide +kernel
theorem dX5_rathest_7 : decode cX5_rathest 7 = .ok (.aload_n 0, 1) := by decide +kernel
theorem dX5_rathest_8 : decode cX5_rathest 8 = .ok (.getfield 24, 3) := by decide +kernel
theorem dX5_rathest_11 : decode cX5_rathest 11 = .ok (.if_icmp .ge 37, 3) := by decide +kernel
theorem dX5_rathest_14 : decode cX5_rathest 14 = .ok (.iload_n 2, 1) := by decide +kernel
theorem dX5_rathest_15 : decode cX5_rathest 15 = .ok (.iload 4, 2) := by decide +kernel
theorem dX5_rathest_17 : decode cX5_rathest 17 = .ok (.ishr, 1) := by decide +kernel
theorem dX5_rathest_18 : decode cX5_rathest 18 = .ok (.iconst 1, 1) := by decide +kernel
theorem dX5_rathest_19 : decode cX5_rathest 19 = .ok (.iand, 1) := by decide +kernel
theorem dX5_rathest_20 : decode cX5_rathest 20 = .ok (.ifCond .eq 22, 3) := by decide +kernel
theorem dX5_rathest_23 : decode cX5_rathest 23 = .ok (.aload_n 0, 1) := by decide +kernel
theorem dX5_rathest_24 : decode cX5_rathest 24 = .ok (.iload_n 1, 1) := by decide +kernel
theorem dX5_rathest_25 : decode cX5_rathest 25 = .ok (.iload 4, 2) := by decide +kernel
theorem dX5_rathest_27 : decode cX5_rathest 27 = .ok (.invokestatic 61, 3) := by decide +kernel
theorem dX5_rathest_30 : decode cX5_rathest 30 = .ok (.aload_n 0, 1) := by decide +kernel
theorem dX5_rathest_31 : decode cX5_rathest 31 = .ok (.iload_n 1, 1) := by decide +kernel
theorem dX5_rathest_32 : decode cX5_rathest 32 = .ok (.iload_n 3, 1) := by decide +kernel
theorem dX5_rathest_33 : decode cX5_rathest 33 = .ok (.invokestatic 61, 3) := by decide +kernel
theorem dX5_rathest_36 : decode cX5_rathest 36 = .ok (.if_icmp .le 6, 3) := by decide +kernel
theorem dX5_rathest_39 : decode cX5_rathest 39 = .ok (.iload 4, 2) := by decide +kernel
theorem dX5_rathest_41 : decode cX5_rathest 41 = .ok (.istore_n 3, 1) := by decide +kernel
theorem dX5_rathest_42 : decode cX5_rathest 42 = .ok (.iinc 4 1, 3) := by decide +kernel
theorem dX5_rathest_45 : decode cX5_rathest 45 = .ok (.goto (-40), 3) := by decide +kernel
theorem dX5_rathest_48 : decode cX5_rathest 48 = .ok (.iload_n 3, 1) := by decide +kernel
theorem dX5_rathest_49 : decode cX5_rathest 49 = .ok (.ireturn, 1) := by decide +kernel
theorem dX5_likes_0 : decode cX5_likes 0 = .ok (.aload_n 0, 1) := by decide +kernel
theorem dX5_likes_1 : decode cX5_likes 1 = .ok (.getfield 34, 3) := by decide +kernel
theorem dX5_likes_4 : decode cX5_likes 4 = .ok (.iconst 5, 1) := by decide +kernel
theorem dX5_likes_5 : decode cX5_likes 5 = .ok (.aaload, 1) := by decide +kernel
theorem dX5_likes_6 : decode cX5_likes 6 = .ok (.iload_n 2, 1) := by decide +kernel
theorem dX5_likes_7 : decode cX5_likes 7 = .ok (.iaload, 1) := by decide +kernel
theorem dX5_likes_8 : decode cX5_likes 8 = .ok (.istore_n 3, 1) := by decide +kernel
theorem dX5_likes_9 : decode cX5_likes 9 = .ok (.iload_n 3, 1) := by decide +kernel
theorem dX5_likes_10 : decode cX5_likes 10 = .ok (.iconst (-1), 1) := by decide +kernel
theorem dX5_likes_11 : decode cX5_likes 11 = .ok (.if_icmp .eq 20, 3) := by decide +kernel
theorem dX5_likes_14 : decode cX5_likes 14 = .ok (.iload_n 3, 1) := by decide +kernel
theorem dX5_likes_15 : decode cX5_likes 15 = .ok (.aload_n 0, 1) := by decide +kernel
theorem dX5_likes_16 : decode cX5_likes 16 = .ok (.getfield 34, 3) := by decide +kernel
theorem dX5_likes_19 : decode cX5_likes 19 = .ok (.iconst 4, 1) := by decide +kernel
theorem dX5_likes_20 : decode cX5_likes 20 = .ok (.aaload, 1) := by decide +kernel
theorem dX5_likes_21 : decode cX5_likes 21 = .ok (.iload_n 1, 1) := by decide +kernel
theorem dX5_likes_22 : decode cX5_likes 22 = .ok (.iaload, 1) := by decide +kernel
theorem dX5_likes_23 : decode cX5_likes 23 = .ok (.if_icmp .ne 8, 3) := by decide +kernel
theorem dX5_likes_26 : decode cX5_likes 26 = .ok (.bipush 100, 2) := by decide +kernel
theorem dX5_likes_28 : decode cX5_likes 28 = .ok (.goto 8, 3) := by decide +kernel
theorem dX5_likes_31 : decode cX5_likes 31 = .ok (.aload_n 0, 1) := by decide +kernel
theorem dX5_likes_32 : decode cX5_likes 32 = .ok (.iload_n 2, 1) := by decide +kernel
theorem dX5_likes_33 : decode cX5_likes 33 = .ok (.invokevirtual 64, 3) := by decide +kernel
theorem dX5_likes_36 : decode cX5_likes 36 = .ok (.ireturn, 1) := by decide +kernel
theorem dX5_isBetter_0 : decode cX5_isBetter 0 = .ok (.aload_n 0, 1) := by decide +kernel
theorem dX5_isBetter_1 : decode cX5_isBetter 1 = .ok (.getfield 34, 3) := by decide +kernel
theorem dX5_isBetter_4 : decode cX5_isBetter 4 = .ok (.iconst 5, 1) := by decide +kernel
theorem dX5_isBetter_5 : decode cX5_isBetter 5 = .ok (.aaload, 1) := by decide +kernel
theorem dX5_isBetter_6 : decode cX5_isBetter 6 = .ok (.iload_n 1, 1) := by decide +kernel
theorem dX5_isBetter_7 : decode cX5_isBetter 7 = .ok (.iaload, 1) := by decide +kernel
theorem dX5_isBetter_8 : decode cX5_isBetter 8 = .ok (.iconst (-1), 1) := by decide +kernel
theorem dX5_isBetter_9 : decode cX5_isBetter 9 = .ok (.if_icmp .eq 22, 3) := by decide +kernel
theorem dX5_isBetter_12 : decode cX5_isBetter 12 = .ok (.aload_n 0, 1) := by decide +kernel
theorem dX5_isBetter_13 : decode cX5_isBetter 13 = .ok (.iload_n 1, 1) := by decide +kernel
theorem dX5_isBetter_14 : decode cX5_isBetter 14 = .ok (.iload_n 2, 1) := by decide +kernel
theorem dX5_isBetter_15 : decode cX5_isBetter 15 = .ok (.invokestatic 61, 3) := by decide +kernel
theorem dX5_isBetter_18 : decode cX5_isBetter 18 = .ok (.aload_n 0, 1) := by decide +kernel
theorem dX5_isBetter_19 : decode cX5_isBetter 19 = .ok (.iload_n 1, 1) := by decide +kernel
theorem dX5_isBetter_20 : decode cX5_isBetter 20 = .ok (.iload_n 1, 1) := by decide +kernel
theorem dX5_isBetter_21 : decode cX5_isBetter 21 = .ok (.invokestatic 61, 3) := by decide +kernel
theorem dX5_isBetter_24 : decode cX5_isBetter 24 = .ok (.if_icmp .le 7, 3) := by decide +kernel
theorem dX5_isBetter_27 : decode cX5_isBetter 27 = .ok (.iconst 1, 1) := by decide +kernel
theorem dX5_isBetter_28 : decode cX5_isBetter 28 = .ok (.goto 4, 3) := by decide +kernel
theorem dX5_isBetter_31 : decode cX5_isBetter 31 = .ok (.iconst 0, 1) := by decide +kernel
theorem dX5_isBetter_32 : decode cX5_isBetter 32 = .ok (.ireturn, 1) := by decide +kernel
theorem dX5_closeRings_0 : decode cX5_closeRings 0 = .ok (.iconst 0, 1) := by decide +kernel
theorem dX5_closeRings_1 : decode cX5_closeRings 1 = .ok (.istore_n 3, 1) := by decide +kernel
theorem dX5_closeRings_2 : decode cX5_closeRings 2 = .ok (.iconst 0, 1) := by decide +kernel
theorem dX5_closeRings_3 : decode cX5_closeRings 3 = .ok (.istore 4, 2) := by decide +kernel
theorem dX5_closeRings_5 : decode cX5_closeRings 5 = .ok (.iload 4, 2) := by decide +kernel
theorem dX5_closeRings_7 : decode cX5_closeRings 7 = .ok (.aload_n 1, 1) := by decide +kernel
theorem dX5_closeRings_8 : decode cX5_closeRings 8 = .ok (.getfield 24, 3) := by decide +kernel
theorem dX5_closeRings_11 : decode cX5_closeRings 11 = .ok (.if_icmp .ge 65, 3) := by decide +kernel
theorem dX5_closeRings_14 : decode cX5_closeRings 14 = .ok (.iload_n 2, 1) := by decide +kernel
theorem dX5_closeRings_15 : decode cX5_closeRings 15 = .ok (.iload 4, 2) := by decide +kernel
theorem dX5_closeRings_17 : decode cX5_closeRings 17 = .ok (.ishr, 1) := by decide +kernel
theorem dX5_closeRings_18 : decode cX5_closeRings 18 = .ok (.iconst 1, 1) := by decide +kernel
theorem dX5_closeRings_19 : decode cX5_closeRings 19 = .ok (.iand, 1) := by decide +kernel
theorem dX5_closeRings_20 : decode cX5_closeRings 20 = .ok (.ifCond .eq 12, 3) := by decide +kernel
theorem dX5_closeRings_23 : decode cX5_closeRings 23 = .ok (.aload_n 0, 1) := by decide +kernel
theorem dX5_closeRings_24 : decode cX5_closeRings 24 = .ok (.iload 4, 2) := by decide +kernel
theorem dX5_closeRings_26 : decode cX5_closeRings 26 = .ok (.invokevirtual 67, 3) := by decide +kernel
theorem dX5_closeRings_29 : decode cX5_closeRings 29 = .ok (.goto 4, 3) := by decide +kernel
theorem dX5_closeRings_32 : decode cX5_closeRings 32 = .ok (.iconst 0, 1) := by decide +kernel
theorem dX5_closeRings_33 : decode cX5_closeRings 33 = .ok (.istore 5, 2) := by decide +kernel
theorem dX5_closeRings_35 : decode cX5_closeRings 35 = .ok (.iload 5, 2) := by decide +kernel
theorem dX5_closeRings_37 : decode cX5_closeRings 37 = .ok (.ifCond .le 33, 3) := by decide +kernel
theorem dX5_closeRings_40 : decode cX5_closeRings 40 = .ok (.aload_n 0, 1) := by decide +kernel
theorem dX5_closeRings_41 : decode cX5_closeRings 41 = .ok (.getfield 18, 3) := by decide +kernel
theorem dX5_closeRings_44 : decode cX5_closeRings 44 = .ok (.iload 4, 2) := by decide +kernel
theorem dX5_closeRings_46 : decode cX5_closeRings 46 = .ok (.iload 5, 2) := by decide +kernel
theorem dX5_closeRings_48 : decode cX5_closeRings 48 = .ok (.iastore, 1) := by decide +kernel
theorem dX5_closeRings_49 : decode cX5_closeRings 49 = .ok (.aload_n 0, 1) := by decide +kernel
theorem dX5_closeRings_50 : decode cX5_closeRings 50 = .ok (.getfield 15, 3) := by decide +kernel
theorem dX5_closeRings_53 : decode cX5_closeRings 53 = .ok (.iload 4, 2) := by decide +kernel
theorem dX5_closeRings_55 : decode cX5_closeRings 55 = .ok (.aload_n 0, 1) := by decide +kernel
theorem dX5_closeRings_56 : decode cX5_closeRings 56 = .ok (.getfield 21, 3) := by decide +kernel
theorem dX5_closeRings_59 : decode cX5_closeRings 59 = .ok (.iload 4, 2) := by decide +kernel
theorem dX5_closeRings_61 : decode cX5_closeRings 61 = .ok (.iaload, 1) := by decide +kernel
theorem dX5_closeRings_62 : decode cX5_closeRings 62 = .ok (.iastore, 1) := by decide +kernel
theorem dX5_closeRings_63 : decode cX5_closeRings 63 = .ok (.iload_n 3, 1) := by decide +kernel
theorem dX5_closeRings_64 : decode cX5_closeRings 64 = .ok (.iconst 1, 1) := by decide +kernel
theorem dX5_closeRings_65 : decode cX5_closeRings 65 = .ok (.iload 4, 2) := by decide +kernel
theorem dX5_closeRings_67 : decode cX5_closeRings 67 = .ok (.ishl, 1) := by decide +kernel
theorem dX5_closeRings_68 : decode cX5_closeRings 68 = .ok (.ior, 1) := by decide +kernel
theorem dX5_closeRings_69 : decode cX5_closeRings 69 = .ok (.istore_n 3, 1) := by decide +kernel
theorem dX5_closeRings_70 : decode cX5_closeRings 70 = .ok (.iinc 4 1, 3) := by decide +kernel
theorem dX5_closeRings_73 : decode cX5_closeRings 73 = .ok (.goto (-68), 3) := by decide +kernel
theorem dX5_closeRings_76 : decode cX5_closeRings 76 = .ok (.iload_n 3, 1) := by decide +kernel
theorem dX5_closeRings_77 : decode cX5_closeRings 77 = .ok (.ireturn, 1) := by decide +kernel
theorem dX5_ringFrom_0 : decode cX5_ringFrom 0 = .ok (.iload_n 1, 1) := by decide +kernel
theorem dX5_ringFrom_1 : decode cX5_ringFrom 1 = .ok (.istore_n 2, 1) := by decide +kernel
theorem dX5_ringFrom_2 : decode cX5_ringFrom 2 = .ok (.iconst 1, 1) := by decide +kernel
theorem dX5_ringFrom_3 : decode cX5_ringFrom 3 = .ok (.istore_n 3, 1) := by decide +kernel
theorem dX5_ringFrom_4 : decode cX5_ringFrom 4 = .ok (.iload_n 3, 1) := by decide +kernel
theorem dX5_ringFrom_5 : decode cX5_ringFrom 5 = .ok (.bipush 8, 2) := by decide +kernel
theorem dX5_ringFrom_7 : decode cX5_ringFrom 7 = .ok (.if_icmp .gt 23, 3) := by decide +kernel
theorem dX5_ringFrom_10 : decode cX5_ringFrom 10 = .ok (.aload_n 0, 1) := by decide +kernel
theorem dX5_ringFrom_11 : decode cX5_ringFrom 11 = .ok (.getfield 21, 3) := by decide +kernel
theorem dX5_ringFrom_14 : decode cX5_ringFrom 14 = .ok (.iload_n 2, 1) := by decide +kernel
theorem dX5_ringFrom_15 : decode cX5_ringFrom 15 = .ok (.iaload, 1) := by decide +kernel
theorem dX5_ringFrom_16 : decode cX5_ringFrom 16 = .ok (.istore_n 2, 1) := by decide +kernel
theorem dX5_ringFrom_17 : decode cX5_ringFrom 17 = .ok (.iload_n 2, 1) := by decide +kernel
theorem dX5_ringFrom_18 : decode cX5_ringFrom 18 = .ok (.iload_n 1, 1) := by decide +kernel
theorem dX5_ringFrom_19 : decode cX5_ringFrom 19 = .ok (.if_icmp .ne 5, 3) := by decide +kernel
theorem dX5_ringFrom_22 : decode cX5_ringFrom 22 = .ok (.iload_n 3, 1) := by decide +kernel
theorem dX5_ringFrom_23 : decode cX5_ringFrom 23 = .ok (.ireturn, 1) := by decide +kernel
theorem dX5_ringFrom_24 : decode cX5_ringFrom 24 = .ok (.iinc 3 1, 3) := by decide +kernel
theorem dX5_ringFrom_27 : decode cX5_ringFrom 27 = .ok (.goto (-23), 3) := by decide +kernel
theorem dX5_ringFrom_30 : decode cX5_ringFrom 30 = .ok (.iconst 0, 1) := by decide +kernel
theorem dX5_ringFrom_31 : decode cX5_ringFrom 31 = .ok (.ireturn, 1) := by decide +kernel
theorem dX5_fewestWithAll_0 : decode cX5_fewestWithAll 0 = .ok (.iconst 0, 1) := by decide +kernel
theorem dX5_fewestWithAll_1 : decode cX5_fewestWithAll 1 = .ok (.istore_n 1, 1) := by decide +kernel
theorem dX5_fewestWithAll_2 : decode cX5_fewestWithAll 2 = .ok (.iconst 0, 1) := by decide +kernel
theorem dX5_fewestWithAll_3 : decode cX5_fewestWithAll 3 = .ok (.istore_n 2, 1) := by decide +kernel
theorem dX5_fewestWithAll_4 : decode cX5_fewestWithAll 4 = .ok (.iload_n 2, 1) := by decide +kernel
theorem dX5_fewestWithAll_5 : decode cX5_fewestWithAll 5 = .ok (.bipush 8, 2) := by decide +kernel
theorem dX5_fewestWithAll_7 : decode cX5_fewestWithAll 7 = .ok (.if_icmp .ge 23, 3) := by decide +kernel
theorem dX5_fewestWithAll_10 : decode cX5_fewestWithAll 10 = .ok (.aload_n 0, 1) := by decide +kernel
theorem dX5_fewestWithAll_11 : decode cX5_fewestWithAll 11 = .ok (.iconst 5, 1) := by decide +kernel
theorem dX5_fewestWithAll_12 : decode cX5_fewestWithAll 12 = .ok (.iload_n 2, 1) := by decide +kernel
theorem dX5_fewestWithAll_13 : decode cX5_fewestWithAll 13 = .ok (.invokevirtual 38, 3) := by decide +kernel
theorem dX5_fewestWithAll_16 : decode cX5_fewestWithAll 16 = .ok (.istore_n 3, 1) := by decide +kernel
theorem dX5_fewestWithAll_17 : decode cX5_fewestWithAll 17 = .ok (.iload_n 1, 1) := by decide +kernel
theorem dX5_fewestWithAll_18 : decode cX5_fewestWithAll 18 = .ok (.iload_n 3, 1) := by decide +kernel
theorem dX5_fewestWithAll_19 : decode cX5_fewestWithAll 19 = .ok (.iload_n 3, 1) := by decide +kernel
theorem dX5_fewestWithAll_20 : decode cX5_fewestWithAll 20 = .ok (.ineg, 1) := by decide +kernel
theorem dX5_fewestWithAll_21 : decode cX5_fewestWithAll 21 = .ok (.iand, 1) := by decide +kernel
theorem dX5_fewestWithAll_22 : decode cX5_fewestWithAll 22 = .ok (.ior, 1) := by decide +kernel
theorem dX5_fewestWithAll_23 : decode cX5_fewestWithAll 23 = .ok (.istore_n 1, 1) := by decide +kernel
theorem dX5_fewestWithAll_24 : decode cX5_fewestWithAll 24 = .ok (.iinc 2 1, 3) := by decide +kernel
theorem dX5_fewestWithAll_27 : decode cX5_fewestWithAll 27 = .ok (.goto (-23), 3) := by decide +kernel
theorem dX5_fewestWithAll_30 : decode cX5_fewestWithAll 30 = .ok (.iload_n 1, 1) := by decide +kernel
theorem dX5_fewestWithAll_31 : decode cX5_fewestWithAll 31 = .ok (.ireturn, 1) := by decide +kernel
theorem dX6_init_0 : decode cX6_init 0 = .ok (.aload_n 0, 1) := by decide +kernel
theorem dX6_init_1 : decode cX6_init 1 = .ok (.invokespecial 3, 3) := by decide +kernel
theorem dX6_init_4 : decode cX6_init 4 = .ok (.aload_n 0, 1) := by decide +kernel
theorem dX6_init_5 : decode cX6_init 5 = .ok (.aload_n 1, 1) := by decide +kernel
theorem dX6_init_6 : decode cX6_init 6 = .ok (.putfield 9, 3) := by decide +kernel
theorem dX6_init_9 : decode cX6_init 9 = .ok (.return_, 1) := by decide +kernel
theorem dX6_readLine_0 : decode cX6_readLine 0 = .ok (.aload_n 0, 1) := by decide +kernel
theorem dX6_readLine_1 : decode cX6_readLine 1 = .ok (.sipush 1017, 3) := by decide +kernel
theorem dX6_readLine_4 : decode cX6_readLine 4 = .ok (.invokevirtual 15, 3) := by decide +kernel
theorem dX6_readLine_7 : decode cX6_readLine 7 = .ok (.ifCond .eq 8, 3) := by decide +kernel
theorem dX6_readLine_10 : decode cX6_readLine 10 = .ok (.aload_n 0, 1) := by decide +kernel
theorem dX6_readLine_11 : decode cX6_readLine 11 = .ok (.invokevirtual 19, 3) := by decide +kernel
theorem dX6_readLine_14 : decode cX6_readLine 14 = .ok (.ireturn, 1) := by decide +kernel
theorem dX6_readLine_15 : decode cX6_readLine 15 = .ok (.aload_n 0, 1) := by decide +kernel
theorem dX6_readLine_16 : decode cX6_readLine 16 = .ok (.invokevirtual 23, 3) := by decide +kernel
theorem dX6_readLine_19 : decode cX6_readLine 19 = .ok (.sipush 1000, 3) := by decide +kernel
theorem dX6_readLine_22 : decode cX6_readLine 22 = .ok (.if_icmp .ne 28, 3) := by decide +kernel
theorem dX6_readLine_25 : decode cX6_readLine 25 = .ok (.aload_n 0, 1) := by decide +kernel
theorem dX6_readLine_26 : decode cX6_readLine 26 = .ok (.getfield 9, 3) := by decide +kernel
theorem dX6_readLine_29 : decode cX6_readLine 29 = .ok (.getfield 27, 3) := by decide +kernel
theorem dX6_readLine_32 : decode cX6_readLine 32 = .ok (.bipush 8, 2) := by decide +kernel
theorem dX6_readLine_34 : decode cX6_readLine 34 = .ok (.if_icmp .ge 14, 3) := by decide +kernel
theorem dX6_readLine_37 : decode cX6_readLine 37 = .ok (.aload_n 0, 1) := by decide +kernel
theorem dX6_readLine_38 : decode cX6_readLine 38 = .ok (.invokevirtual 33, 3) := by decide +kernel
theorem dX6_readLine_41 : decode cX6_readLine 41 = .ok (.ifCond .eq 7, 3) := by decide +kernel
theorem dX6_readLine_44 : decode cX6_readLine 44 = .ok (.iconst 1, 1) := by decide +kernel
theorem dX6_readLine_45 : decode cX6_readLine 45 = .ok (.goto 4, 3) := by decide +kernel
theorem dX6_readLine_48 : decode cX6_readLine 48 = .ok (.iconst 0, 1) := by decide +kernel
theorem dX6_readLine_49 : decode cX6_readLine 49 = .ok (.ireturn, 1) := by decide +kernel
theorem dX6_readLine_50 : decode cX6_readLine 50 = .ok (.aload_n 0, 1) := by decide +kernel
theorem dX6_readLine_51 : decode cX6_readLine 51 = .ok (.sipush 1020, 3) := by decide +kernel
theorem dX6_readLine_54 : decode cX6_readLine 54 = .ok (.invokevirtual 15, 3) := by decide +kernel
theorem dX6_readLine_57 : decode cX6_readLine 57 = .ok (.ifCond .eq 8, 3) := by decide +kernel
theorem dX6_readLine_60 : decode cX6_readLine 60 = .ok (.aload_n 0, 1) := by decide +kernel
theorem dX6_readLine_61 : decode cX6_readLine 61 = .ok (.invokevirtual 36, 3) := by decide +kernel
theorem dX6_readLine_64 : decode cX6_readLine 64 = .ok (.ireturn, 1) := by decide +kernel
theorem dX6_readLine_65 : decode cX6_readLine 65 = .ok (.aload_n 0, 1) := by decide +kernel
theorem dX6_readLine_66 : decode cX6_readLine 66 = .ok (.sipush 1021, 3) := by decide +kernel
theorem dX6_readLine_69 : decode cX6_readLine 69 = .ok (.invokevirtual 15, 3) := by decide +kernel
theorem dX6_readLine_72 : decode cX6_readLine 72 = .ok (.ifCond .eq 21, 3) := by decide +kernel
theorem dX6_readLine_75 : decode cX6_readLine 75 = .ok (.aload_n 0, 1) := by decide +kernel
theorem dX6_readLine_76 : decode cX6_readLine 76 = .ok (.aload_n 0, 1) := by decide +kernel
theorem dX6_readLine_77 : decode cX6_readLine 77 = .ok (.getfield 9, 3) := by decide +kernel
theorem dX6_readLine_80 : decode cX6_readLine 80 = .ok (.getfield 39, 3) := by decide +kernel
theorem dX6_readLine_83 : decode cX6_readLine 83 = .ok (.iconst 0, 1) := by decide +kernel
theorem dX6_readLine_84 : decode cX6_readLine 84 = .ok (.aaload, 1) := by decide +kernel
theorem dX6_readLine_85 : decode cX6_readLine 85 = .ok (.bipush 8, 2) := by decide +kernel
theorem dX6_readLine_87 : decode cX6_readLine 87 = .ok (.bipush 9, 2) := by decide +kernel
theorem dX6_readLine_89 : decode cX6_readLine 89 = .ok (.invokevirtual 43, 3) := by decide +kernel
theorem dX6_readLine_92 : decode cX6_readLine 92 = .ok (.ireturn, 1) := by decide +kernel
theorem dX6_readLine_93 : decode cX6_readLine 93 = .ok (.aload_n 0, 1) := by decide +kernel
theorem dX6_readLine_94 : decode cX6_readLine 94 = .ok (.sipush 1007, 3) := by decide +kernel
theorem dX6_readLine_97 : decode cX6_readLine 97 = .ok (.invokevirtual 15, 3) := by decide +kernel
theorem dX6_readLine_100 : decode cX6_readLine 100 = .ok (.ifCond .eq 14, 3) := by decide +kernel
theorem dX6_readLine_103 : decode cX6_readLine 103 = .ok (.aload_n 0, 1) := by decide +kernel
theorem dX6_readLine_104 : decode cX6_readLine 104 = .ok (.invokevirtual 47, 3) := by decide +kernel
theorem dX6_readLine_107 : decode cX6_readLine 107 = .ok (.ifCond .eq 7, 3) := by decide +kernel
theorem dX6_readLine_110 : decode cX6_readLine 110 = .ok (.iconst 1, 1) := by decide +kernel
theorem dX6_readLine_111 : decode cX6_readLine 111 = .ok (.goto 4, 3) := by decide +kernel
theorem dX6_readLine_114 : decode cX6_readLine 114 = .ok (.iconst 0, 1) := by decide +kernel
theorem dX6_readLine_115 : decode cX6_readLine 115 = .ok (.ireturn, 1) := by decide +kernel
theorem dX6_readThing_0 : decode cX6_readThing 0 = .ok (.aload_n 0, 1) := by decide +kernel
theorem dX6_readThing_1 : decode cX6_readThing 1 = .ok (.invokevirtual 50, 3) := by decide +kernel
theorem dX6_readThing_4 : decode cX6_readThing 4 = .ok (.istore_n 1, 1) := by decide +kernel
theorem dX6_readThing_5 : decode cX6_readThing 5 = .ok (.iload_n 1, 1) := by decide +kernel
theorem dX6_readThing_6 : decode cX6_readThing 6 = .ok (.iconst (-1), 1) := by decide +kernel
theorem dX6_readThing_7 : decode cX6_readThing 7 = .ok (.if_icmp .ne 5, 3) := by decide +kernel
theorem dX6_readThing_10 : decode cX6_readThing 10 = .ok (.iconst 0, 1) := by decide +kernel
theorem dX6_readThing_11 : decode cX6_readThing 11 = .ok (.ireturn, 1) := by decide +kernel
theorem dX6_readThing_12 : decode cX6_readThing 12 = .ok (.aload_n 0, 1) := by decide +kernel
theorem dX6_readThing_13 : decode cX6_readThing 13 = .ok (.invokevirtual 53, 3) := by decide +kernel
theorem dX6_readThing_16 : decode cX6_readThing 16 = .ok (.aload_n 0, 1) := by decide +kernel
theorem dX6_readThing_17 : decode cX6_readThing 17 = .ok (.sipush 1018, 3) := by decide +kernel
theorem dX6_readThing_20 : decode cX6_readThing 20 = .ok (.invokevirtual 15, 3) := by decide +kernel
theorem dX6_readThing_23 : decode cX6_readThing 23 = .ok (.ifCond .eq 113, 3) := by decide +kernel
theorem dX6_readThing_26 : decode cX6_readThing 26 = .ok (.aload_n 0, 1) := by decide +kernel
theorem dX6_readThing_27 : decode cX6_readThing 27 = .ok (.aload_n 0, 1) := by decide +kernel
theorem dX6_readThing_28 : decode cX6_readThing 28 = .ok (.getfield 9, 3) := by decide +kernel
theorem dX6_readThing_31 : decode cX6_readThing 31 = .ok (.getfield 39, 3) := by decide +kernel
theorem dX6_readThing_34 : decode cX6_readThing 34 = .ok (.iconst 0, 1) := by decide +kernel
theorem dX6_readThing_35 : decode cX6_readThing 35 = .ok (.aaload, 1) := by decide +kernel
theorem dX6_readThing_36 : decode cX6_readThing 36 = .ok (.iload_n 1, 1) := by decide +kernel
theorem dX6_readThing_37 : decode cX6_readThing 37 = .ok (.bipush 9, 2) := by decide +kernel
theorem dX6_readThing_39 : decode cX6_readThing 39 = .ok (.invokevirtual 43, 3) := by decide +kernel
theorem dX6_readThing_42 : decode cX6_readThing 42 = .ok (.ifCond .eq 94, 3) := by decide +kernel
theorem dX6_readThing_45 : decode cX6_readThing 45 = .ok (.aload_n 0, 1) := by decide +kernel
theorem dX6_readThing_46 : decode cX6_readThing 46 = .ok (.sipush 1003, 3) := by decide +kernel
theorem dX6_readThing_49 : decode cX6_readThing 49 = .ok (.invokevirtual 15, 3) := by decide +kernel
theorem dX6_readThing_52 : decode cX6_readThing 52 = .ok (.ifCond .eq 84, 3) := by decide +kernel
theorem dX6_readThing_55 : decode cX6_readThing 55 = .ok (.aload_n 0, 1) := by decide +kernel
theorem dX6_readThing_56 : decode cX6_readThing 56 = .ok (.aload_n 0, 1) := by decide +kernel
theorem dX6_readThing_57 : decode cX6_readThing 57 = .ok (.getfield 9, 3) := by decide +kernel
theorem dX6_readThing_60 : decode cX6_readThing 60 = .ok (.getfield 39, 3) := by decide +kernel
theorem dX6_readThing_63 : decode cX6_readThing 63 = .ok (.iconst 1, 1) := by decide +kernel
theorem dX6_readThing_64 : decode cX6_readThing 64 = .ok (.aaload, 1) := by decide +kernel
theorem dX6_readThing_65 : decode cX6_readThing 65 = .ok (.iload_n 1, 1) := by decide +kernel
theorem dX6_readThing_66 : decode cX6_readThing 66 = .ok (.bipush 9, 2) := by decide +kernel
theorem dX6_readThing_68 : decode cX6_readThing 68 = .ok (.invokevirtual 43, 3) := by decide +kernel
theorem dX6_readThing_71 : decode cX6_readThing 71 = .ok (.ifCond .eq 65, 3) := by decide +kernel
theorem dX6_readThing_74 : decode cX6_readThing 74 = .ok (.aload_n 0, 1) := by decide +kernel
theorem dX6_readThing_75 : decode cX6_readThing 75 = .ok (.sipush 1004, 3) := by decide +kernel
theorem dX6_readThing_78 : decode cX6_readThing 78 = .ok (.invokevirtual 15, 3) := by decide +kernel
theorem dX6_readThing_81 : decode cX6_readThing 81 = .ok (.ifCond .eq 55, 3) := by decide +kernel
theorem dX6_readThing_84 : decode cX6_readThing 84 = .ok (.aload_n 0, 1) := by decide +kernel
theorem dX6_readThing_85 : decode cX6_readThing 85 = .ok (.aload_n 0, 1) := by decide +kernel
theorem dX6_readThing_86 : decode cX6_readThing 86 = .ok (.getfield 9, 3) := by decide +kernel
theorem dX6_readThing_89 : decode cX6_readThing 89 = .ok (.getfield 39, 3) := by decide +kernel
theorem dX6_readThing_92 : decode cX6_readThing 92 = .ok (.iconst 2, 1) := by decide +kernel
theorem dX6_readThing_93 : decode cX6_readThing 93 = .ok (.aaload, 1) := by decide +kernel
theorem dX6_readThing_94 : decode cX6_readThing 94 = .ok (.iload_n 1, 1) := by decide +kernel
theorem dX6_readThing_95 : decode cX6_readThing 95 = .ok (.bipush 9, 2) := by decide +kernel
theorem dX6_readThing_97 : decode cX6_readThing 97 = .ok (.invokevirtual 43, 3) := by decide +kernel
theorem dX6_readThing_100 : decode cX6_readThing 100 = .ok (.ifCond .eq 36, 3) := by decide +kernel
theorem dX6_readThing_103 : decode cX6_readThing 103 = .ok (.aload_n 0, 1) := by decide +kernel
theorem dX6_readThing_104 : decode cX6_readThing 104 = .ok (.sipush 1005, 3) := by decide +kernel
theorem dX6_readThing_107 : decode cX6_readThing 107 = .ok (.invokevirtual 15, 3) := by decide +kernel
theorem dX6_readThing_110 : decode cX6_readThing 110 = .ok (.ifCond .eq 26, 3) := by decide +kernel
theorem dX6_readThing_113 : decode cX6_readThing 113 = .ok (.aload_n 0, 1) := by decide +kernel
theorem dX6_readThing_114 : decode cX6_readThing 114 = .ok (.aload_n 0, 1) := by decide +kernel
theorem dX6_readThing_115 : decode cX6_readThing 115 = .ok (.getfield 9, 3) := by decide +kernel
theorem dX6_readThing_118 : decode cX6_readThing 118 = .ok (.getfield 39, 3) := by decide +kernel
theorem dX6_readThing_121 : decode cX6_readThing 121 = .ok (.iconst 3, 1) := by decide +kernel
theorem dX6_readThing_122 : decode cX6_readThing 122 = .ok (.aaload, 1) := by decide +kernel
theorem dX6_readThing_123 : decode cX6_readThing 123 = .ok (.iload_n 1, 1) := by decide +kernel
theorem dX6_readThing_124 : decode cX6_readThing 124 = .ok (.bipush 99, 2) := by decide +kernel
theorem dX6_readThing_126 : decode cX6_readThing 126 = .ok (.invokevirtual 43, 3) := by decide +kernel
theorem dX6_readThing_129 : decode cX6_readThing 129 = .ok (.ifCond .eq 7, 3) := by decide +kernel
theorem dX6_readThing_132 : decode cX6_readThing 132 = .ok (.iconst 1, 1) := by decide +kernel
theorem dX6_readThing_133 : decode cX6_readThing 133 = .ok (.goto 4, 3) := by decide +kernel
theorem dX6_readThing_136 : decode cX6_readThing 136 = .ok (.iconst 0, 1) := by decide +kernel
theorem dX6_readThing_137 : decode cX6_readThing 137 = .ok (.ireturn, 1) := by decide +kernel
theorem dX6_readChild_0 : decode cX6_readChild 0 = .ok (.aload_n 0, 1) := by decide +kernel
theorem dX6_readChild_1 : decode cX6_readChild 1 = .ok (.invokevirtual 53, 3) := by decide +kernel
theorem dX6_readChild_4 : decode cX6_readChild 4 = .ok (.aload_n 0, 1) := by decide +kernel
theorem dX6_readChild_5 : decode cX6_readChild 5 = .ok (.invokevirtual 23, 3) := by decide +kernel
theorem dX6_readChild_8 : decode cX6_readChild 8 = .ok (.sipush 1022, 3) := by decide +kernel
theorem dX6_readChild_11 : decode cX6_readChild 11 = .ok (.if_icmp .ne 8, 3) := by decide +kernel
theorem dX6_readChild_14 : decode cX6_readChild 14 = .ok (.bipush 8, 2) := by decide +kernel
theorem dX6_readChild_16 : decode cX6_readChild 16 = .ok (.goto 7, 3) := by decide +kernel
theorem dX6_readChild_19 : decode cX6_readChild 19 = .ok (.aload_n 0, 1) := by decide +kernel
theorem dX6_readChild_20 : decode cX6_readChild 20 = .ok (.invokevirtual 50, 3) := by decide +kernel
theorem dX6_readChild_23 : decode cX6_readChild 23 = .ok (.istore_n 1, 1) := by decide +kernel
theorem dX6_readChild_24 : decode cX6_readChild 24 = .ok (.iload_n 1, 1) := by decide +kernel
theorem dX6_readChild_25 : decode cX6_readChild 25 = .ok (.iconst (-1), 1) := by decide +kernel
theorem dX6_readChild_26 : decode cX6_readChild 26 = .ok (.if_icmp .ne 5, 3) := by decide +kernel
theorem dX6_readChild_29 : decode cX6_readChild 29 = .ok (.iconst 0, 1) := by decide +kernel
theorem dX6_readChild_30 : decode cX6_readChild 30 = .ok (.ireturn, 1) := by decide +kernel
theorem dX6_readChild_31 : decode cX6_readChild 31 = .ok (.aload_n 0, 1) := by decide +kernel
theorem dX6_readChild_32 : decode cX6_readChild 32 = .ok (.invokevirtual 53, 3) := by decide +kernel
theorem dX6_readChild_35 : decode cX6_readChild 35 = .ok (.aload_n 0, 1) := by decide +kernel
theorem dX6_readChild_36 : decode cX6_readChild 36 = .ok (.getfield 9, 3) := by decide +kernel
theorem dX6_readChild_39 : decode cX6_readChild 39 = .ok (.iload_n 1, 1) := by decide +kernel
theorem dX6_readChild_40 : decode cX6_readChild 40 = .ok (.invokevirtual 56, 3) := by decide +kernel
theorem dX6_readChild_43 : decode cX6_readChild 43 = .ok (.istore_n 2, 1) := by decide +kernel
theorem dX6_readChild_44 : decode cX6_readChild 44 = .ok (.aload_n 0, 1) := by decide +kernel
theorem dX6_readChild_45 : decode cX6_readChild 45 = .ok (.sipush 1001, 3) := by decide +kernel
theorem dX6_readChild_48 : decode cX6_readChild 48 = .ok (.invokevirtual 15, 3) := by decide +kernel
theorem dX6_readChild_51 : decode cX6_readChild 51 = .ok (.ifCond .eq 25, 3) := by decide +kernel
theorem dX6_readChild_54 : decode cX6_readChild 54 = .ok (.aload_n 0, 1) := by decide +kernel
theorem dX6_readChild_55 : decode cX6_readChild 55 = .ok (.aload_n 0, 1) := by decide +kernel
theorem dX6_readChild_56 : decode cX6_readChild 56 = .ok (.getfield 9, 3) := by decide +kernel
theorem dX6_readChild_59 : decode cX6_readChild 59 = .ok (.getfield 60, 3) := by decide +kernel
theorem dX6_readChild_62 : decode cX6_readChild 62 = .ok (.iconst 0, 1) := by decide +kernel
theorem dX6_readChild_63 : decode cX6_readChild 63 = .ok (.aaload, 1) := by decide +kernel
theorem dX6_readChild_64 : decode cX6_readChild 64 = .ok (.iload_n 2, 1) := by decide +kernel
theorem dX6_readChild_65 : decode cX6_readChild 65 = .ok (.sipush 999, 3) := by decide +kernel
theorem dX6_readChild_68 : decode cX6_readChild 68 = .ok (.invokevirtual 43, 3) := by decide +kernel
theorem dX6_readChild_71 : decode cX6_readChild 71 = .ok (.ifCond .ne 5, 3) := by decide +kernel
theorem dX6_readChild_74 : decode cX6_readChild 74 = .ok (.iconst 0, 1) := by decide +kernel
theorem dX6_readChild_75 : decode cX6_readChild 75 = .ok (.ireturn, 1) := by decide +kernel
theorem dX6_readChild_76 : decode cX6_readChild 76 = .ok (.aload_n 0, 1) := by decide +kernel
theorem dX6_readChild_77 : decode cX6_readChild 77 = .ok (.sipush 1002, 3) := by decide +kernel
theorem dX6_readChild_80 : decode cX6_readChild 80 = .ok (.invokevirtual 15, 3) := by decide +kernel
theorem dX6_readChild_83 : decode cX6_readChild 83 = .ok (.ifCond .eq 24, 3) := by decide +kernel
theorem dX6_readChild_86 : decode cX6_readChild 86 = .ok (.aload_n 0, 1) := by decide +kernel
theorem dX6_readChild_87 : decode cX6_readChild 87 = .ok (.aload_n 0, 1) := by decide +kernel
theorem dX6_readChild_88 : decode cX6_readChild 88 = .ok (.getfield 9, 3) := by decide +kernel
theorem dX6_readChild_91 : decode cX6_readChild 91 = .ok (.getfield 60, 3) := by decide +kernel
theorem dX6_readChild_94 : decode cX6_readChild 94 = .ok (.iconst 3, 1) := by decide +kernel
theorem dX6_readChild_95 : decode cX6_readChild 95 = .ok (.aaload, 1) := by decide +kernel
theorem dX6_readChild_96 : decode cX6_readChild 96 = .ok (.iload_n 2, 1) := by decide +kernel
theorem dX6_readChild_97 : decode cX6_readChild 97 = .ok (.bipush 9, 2) := by decide +kernel
theorem dX6_readChild_99 : decode cX6_readChild 99 = .ok (.invokevirtual 43, 3) := by decide +kernel
theorem dX6_readChild_102 : decode cX6_readChild 102 = .ok (.ifCond .ne 5, 3) := by decide +kernel
theorem dX6_readChild_105 : decode cX6_readChild 105 = .ok (.iconst 0, 1) := by decide +kernel
theorem dX6_readChild_106 : decode cX6_readChild 106 = .ok (.ireturn, 1) := by decide +kernel
theorem dX6_readChild_107 : decode cX6_readChild 107 = .ok (.aload_n 0, 1) := by decide +kernel
theorem dX6_readChild_108 : decode cX6_readChild 108 = .ok (.sipush 1019, 3) := by decide +kernel
theorem dX6_readChild_111 : decode cX6_readChild 111 = .ok (.invokevirtual 15, 3) := by decide +kernel
theorem dX6_readChild_114 : decode cX6_readChild 114 = .ok (.ifCond .eq 11, 3) := by decide +kernel
theorem dX6_readChild_117 : decode cX6_readChild 117 = .ok (.aload_n 0, 1) := by decide +kernel
theorem dX6_readChild_118 : decode cX6_readChild 118 = .ok (.iload_n 2, 1) := by decide +kernel
theorem dX6_readChild_119 : decode cX6_readChild 119 = .ok (.invokevirtual 63, 3) := by decide +kernel
theorem dX6_readChild_122 : decode cX6_readChild 122 = .ok (.ifCond .eq 7, 3) := by decide +kernel
theorem dX6_readChild_125 : decode cX6_readChild 125 = .ok (.iconst 1, 1) := by decide +kernel
theorem dX6_readChild_126 : decode cX6_readChild 126 = .ok (.goto 4, 3) := by decide +kernel
theorem dX6_readChild_129 : decode cX6_readChild 129 = .ok (.iconst 0, 1) := by decide +kernel
theorem dX6_readChild_130 : decode cX6_readChild 130 = .ok (.ireturn, 1) := by decide +kernel
theorem dX6_readWish_0 : decode cX6_readWish 0 = .ok (.aload_n 0, 1) := by decide +kernel
theorem dX6_readWish_1 : decode cX6_readWish 1 = .ok (.invokevirtual 50, 3) := by decide +kernel
theorem dX6_readWish_4 : decode cX6_readWish 4 = .ok (.istore_n 2, 1) := by decide +kernel
theorem dX6_readWish_5 : decode cX6_readWish 5 = .ok (.iload_n 2, 1) := by decide +kernel
theorem dX6_readWish_6 : decode cX6_readWish 6 = .ok (.iconst (-1), 1) := by decide +kernel
theorem dX6_readWish_7 : decode cX6_readWish 7 = .ok (.if_icmp .ne 5, 3) := by decide +kernel
theorem dX6_readWish_10 : decode cX6_readWish 10 = .ok (.iconst 0, 1) := by decide +kernel
theorem dX6_readWish_11 : decode cX6_readWish 11 = .ok (.ireturn, 1) := by decide +kernel
theorem dX6_readWish_12 : decode cX6_readWish 12 = .ok (.aload_n 0, 1) := by decide +kernel
theorem dX6_readWish_13 : decode cX6_readWish 13 = .ok (.getfield 9, 3) := by decide +kernel
theorem dX6_readWish_16 : decode cX6_readWish 16 = .ok (.getfield 60, 3) := by decide +kernel
theorem dX6_readWish_19 : decode cX6_readWish 19 = .ok (.iconst 4, 1) := by decide +kernel
theorem dX6_readWish_20 : decode cX6_readWish 20 = .ok (.aaload, 1) := by decide +kernel
theorem dX6_readWish_21 : decode cX6_readWish 21 = .ok (.iload_n 1, 1) := by decide +kernel
theorem dX6_readWish_22 : decode cX6_readWish 22 = .ok (.iload_n 2, 1) := by decide +kernel
theorem dX6_readWish_23 : decode cX6_readWish 23 = .ok (.iastore, 1) := by decide +kernel
theorem dX6_readWish_24 : decode cX6_readWish 24 = .ok (.aload_n 0, 1) := by decide +kernel
theorem dX6_readWish_25 : decode cX6_readWish 25 = .ok (.invokevirtual 53, 3) := by decide +kernel
theorem dX6_readWish_28 : decode cX6_readWish 28 = .ok (.iconst 1, 1) := by decide +kernel
theorem dX6_readWish_29 : decode cX6_readWish 29 = .ok (.ireturn, 1) := by decide +kernel
theorem dX6_readKnot_0 : decode cX6_readKnot 0 = .ok (.aload_n 0, 1) := by decide +kernel
theorem dX6_readKnot_1 : decode cX6_readKnot 1 = .ok (.aload_n 0, 1) := by decide +kernel
theorem dX6_readKnot_2 : decode cX6_readKnot 2 = .ok (.getfield 9, 3) := by decide +kernel
theorem dX6_readKnot_5 : decode cX6_readKnot 5 = .ok (.getfield 27, 3) := by decide +kernel
theorem dX6_readKnot_8 : decode cX6_readKnot 8 = .ok (.iconst 1, 1) := by decide +kernel
theorem dX6_readKnot_9 : decode cX6_readKnot 9 = .ok (.isub, 1) := by decide +kernel
theorem dX6_readKnot_10 : decode cX6_readKnot 10 = .ok (.invokevirtual 66, 3) := by decide +kernel
theorem dX6_readKnot_13 : decode cX6_readKnot 13 = .ok (.istore_n 1, 1) := by decide +kernel
theorem dX6_readKnot_14 : decode cX6_readKnot 14 = .ok (.iload_n 1, 1) := by decide +kernel
theorem dX6_readKnot_15 : decode cX6_readKnot 15 = .ok (.iconst (-1), 1) := by decide +kernel
theorem dX6_readKnot_16 : decode cX6_readKnot 16 = .ok (.if_icmp .ne 5, 3) := by decide +kernel
theorem dX6_readKnot_19 : decode cX6_readKnot 19 = .ok (.iconst 0, 1) := by decide +kernel
theorem dX6_readKnot_20 : decode cX6_readKnot 20 = .ok (.ireturn, 1) := by decide +kernel
theorem dX6_readKnot_21 : decode cX6_readKnot 21 = .ok (.aload_n 0, 1) := by decide +kernel
theorem dX6_readKnot_22 : decode cX6_readKnot 22 = .ok (.invokevirtual 53, 3) := by decide +kernel
theorem dX6_readKnot_25 : decode cX6_readKnot 25 = .ok (.aload_n 0, 1) := by decide +kernel
theorem dX6_readKnot_26 : decode cX6_readKnot 26 = .ok (.aload_n 0, 1) := by decide +kernel
theorem dX6_readKnot_27 : decode cX6_readKnot 27 = .ok (.getfield 9, 3) := by decide +kernel
theorem dX6_readKnot_30 : decode cX6_readKnot 30 = .ok (.getfield 27, 3) := by decide +kernel
theorem dX6_readKnot_33 : decode cX6_readKnot 33 = .ok (.iconst 1, 1) := by decide +kernel
theorem dX6_readKnot_34 : decode cX6_readKnot 34 = .ok (.isub, 1) := by decide +kernel
theorem dX6_readKnot_35 : decode cX6_readKnot 35 = .ok (.invokevirtual 66, 3) := by decide +kernel
theorem dX6_readKnot_38 : decode cX6_readKnot 38 = .ok (.istore_n 2, 1) := by decide +kernel
theorem dX6_readKnot_39 : decode cX6_readKnot 39 = .ok (.iload_n 2, 1) := by decide +kernel
theorem dX6_readKnot_40 : decode cX6_readKnot 40 = .ok (.iconst (-1), 1) := by decide +kernel
theorem dX6_readKnot_41 : decode cX6_readKnot 41 = .ok (.if_icmp .eq 24, 3) := by decide +kernel
theorem dX6_readKnot_44 : decode cX6_readKnot 44 = .ok (.iload_n 2, 1) := by decide +kernel
theorem dX6_readKnot_45 : decode cX6_readKnot 45 = .ok (.iload_n 1, 1) := by decide +kernel
theorem dX6_readKnot_46 : decode cX6_readKnot 46 = .ok (.if_icmp .eq 19, 3) := by decide +kernel
theorem dX6_readKnot_49 : decode cX6_readKnot 49 = .ok (.aload_n 0, 1) := by decide +kernel
theorem dX6_readKnot_50 : decode cX6_readKnot 50 = .ok (.iload_n 1, 1) := by decide +kernel
theorem dX6_readKnot_51 : decode cX6_readKnot 51 = .ok (.invokevirtual 69, 3) := by decide +kernel
theorem dX6_readKnot_54 : decode cX6_readKnot 54 = .ok (.ifCond .eq 11, 3) := by decide +kernel
theorem dX6_readKnot_57 : decode cX6_readKnot 57 = .ok (.aload_n 0, 1) := by decide +kernel
theorem dX6_readKnot_58 : decode cX6_readKnot 58 = .ok (.iload_n 2, 1) := by decide +kernel
theorem dX6_readKnot_59 : decode cX6_readKnot 59 = .ok (.invokevirtual 69, 3) := by decide +kernel
theorem dX6_readKnot_62 : decode cX6_readKnot 62 = .ok (.ifCond .ne 5, 3) := by decide +kernel
theorem dX6_readKnot_65 : decode cX6_readKnot 65 = .ok (.iconst 0, 1) := by decide +kernel
theorem dX6_readKnot_66 : decode cX6_readKnot 66 = .ok (.ireturn, 1) := by decide +kernel
theorem dX6_readKnot_67 : decode cX6_readKnot 67 = .ok (.aload_n 0, 1) := by decide +kernel
theorem dX6_readKnot_68 : decode cX6_readKnot 68 = .ok (.getfield 9, 3) := by decide +kernel
theorem dX6_readKnot_71 : decode cX6_readKnot 71 = .ok (.iload_n 1, 1) := by decide +kernel
theorem dX6_readKnot_72 : decode cX6_readKnot 72 = .ok (.iload_n 2, 1) := by decide +kernel
theorem dX6_readKnot_73 : decode cX6_readKnot 73 = .ok (.invokevirtual 72, 3) := by decide +kernel
theorem dX6_readKnot_76 : decode cX6_readKnot 76 = .ok (.aload_n 0, 1) := by decide +kernel
theorem dX6_readKnot_77 : decode cX6_readKnot 77 = .ok (.invokevirtual 53, 3) := by decide +kernel
theorem dX6_readKnot_80 : decode cX6_readKnot 80 = .ok (.iconst 1, 1) := by decide +kernel
theorem dX6_readKnot_81 : decode cX6_readKnot 81 = .ok (.ireturn, 1) := by decide +kernel
theorem dX6_isFree_0 : decode cX6_isFree 0 = .ok (.aload_n 0, 1) := by decide +kernel
theorem dX6_isFree_1 : decode cX6_isFree 1 = .ok (.getfield 9, 3) := by decide +kernel
theorem dX6_isFree_4 : decode cX6_isFree 4 = .ok (.getfield 60, 3) := by decide +kernel
theorem dX6_isFree_7 : decode cX6_isFree 7 = .ok (.bipush 8, 2) := by decide +kernel
theorem dX6_isFree_9 : decode cX6_isFree 9 = .ok (.aaload, 1) := by decide +kernel
theorem dX6_isFree_10 : decode cX6_isFree 10 = .ok (.iload_n 1, 1) := by decide +kernel
theorem dX6_isFree_11 : decode cX6_isFree 11 = .ok (.iaload, 1) := by decide +kernel
theorem dX6_isFree_12 : decode cX6_isFree 12 = .ok (.iconst (-1), 1) := by decide +kernel
theorem dX6_isFree_13 : decode cX6_isFree 13 = .ok (.if_icmp .ne 23, 3) := by decide +kernel
theorem dX6_isFree_16 : decode cX6_isFree 16 = .ok (.aload_n 0, 1) := by decide +kernel
theorem dX6_isFree_17 : decode cX6_isFree 17 = .ok (.getfield 9, 3) := by decide +kernel
theorem dX6_isFree_20 : decode cX6_isFree 20 = .ok (.getfield 60, 3) := by decide +kernel
theorem dX6_isFree_23 : decode cX6_isFree 23 = .ok (.iconst 2, 1) := by decide +kernel
theorem dX6_isFree_24 : decode cX6_isFree 24 = .ok (.aaload, 1) := by decide +kernel
theorem dX6_isFree_25 : decode cX6_isFree 25 = .ok (.iload_n 1, 1) := by decide +kernel
theorem dX6_isFree_26 : decode cX6_isFree 26 = .ok (.iaload, 1) := by decide +kernel
theorem dX6_isFree_27 : decode cX6_isFree 27 = .ok (.bipush 31, 2) := by decide +kernel
theorem dX6_isFree_29 : decode cX6_isFree 29 = .ok (.if_icmp .ne 7, 3) := by decide +kernel
theorem dX6_isFree_32 : decode cX6_isFree 32 = .ok (.iconst 1, 1) := by decide +kernel
theorem dX6_isFree_33 : decode cX6_isFree 33 = .ok (.goto 4, 3) := by decide +kernel
theorem dX6_isFree_36 : decode cX6_isFree 36 = .ok (.iconst 0, 1) := by decide +kernel
theorem dX6_isFree_37 : decode cX6_isFree 37 = .ok (.ireturn, 1) := by decide +kernel
theorem dX6_readMonth_0 : decode cX6_readMonth 0 = .ok (.aload_n 0, 1) := by decide +kernel
theorem dX6_readMonth_1 : decode cX6_readMonth 1 = .ok (.sipush 999, 3) := by decide +kernel
theorem dX6_readMonth_4 : decode cX6_readMonth 4 = .ok (.invokevirtual 66, 3) := by decide +kernel
theorem dX6_readMonth_7 : decode cX6_readMonth 7 = .ok (.istore_n 1, 1) := by decide +kernel
theorem dX6_readMonth_8 : decode cX6_readMonth 8 = .ok (.iload_n 1, 1) := by decide +kernel
theorem dX6_readMonth_9 : decode cX6_readMonth 9 = .ok (.iconst (-1), 1) := by decide +kernel
theorem dX6_readMonth_10 : decode cX6_readMonth 10 = .ok (.if_icmp .ne 5, 3) := by decide +kernel
theorem dX6_readMonth_13 : decode cX6_readMonth 13 = .ok (.iconst 0, 1) := by decide +kernel
theorem dX6_readMonth_14 : decode cX6_readMonth 14 = .ok (.ireturn, 1) := by decide +kernel
theorem dX6_readMonth_15 : decode cX6_readMonth 15 = .ok (.aload_n 0, 1) := by decide +kernel
theorem dX6_readMonth_16 : decode cX6_readMonth 16 = .ok (.getfield 9, 3) := by decide +kernel
theorem dX6_readMonth_19 : decode cX6_readMonth 19 = .ok (.iload_n 1, 1) := by decide +kernel
theorem dX6_readMonth_20 : decode cX6_readMonth 20 = .ok (.putfield 76, 3) := by decide +kernel
theorem dX6_readMonth_23 : decode cX6_readMonth 23 = .ok (.aload_n 0, 1) := by decide +kernel
theorem dX6_readMonth_24 : decode cX6_readMonth 24 = .ok (.invokevirtual 53, 3) := by decide +kernel
theorem dX6_readMonth_27 : decode cX6_readMonth 27 = .ok (.iconst 1, 1) := by decide +kernel
theorem dX6_readMonth_28 : decode cX6_readMonth 28 = .ok (.ireturn, 1) := by decide +kernel
theorem dX6_readNumber_0 : decode cX6_readNumber 0 = .ok (.aload_n 0, 1) := by decide +kernel
theorem dX6_readNumber_1 : decode cX6_readNumber 1 = .ok (.iload_n 3, 1) := by decide +kernel
theorem dX6_readNumber_2 : decode cX6_readNumber 2 = .ok (.invokevirtual 66, 3) := by decide +kernel
theorem dX6_readNumber_5 : decode cX6_readNumber 5 = .ok (.istore 4, 2) := by decide +kernel
theorem dX6_readNumber_7 : decode cX6_readNumber 7 = .ok (.iload 4, 2) := by decide +kernel
theorem dX6_readNumber_9 : decode cX6_readNumber 9 = .ok (.iconst (-1), 1) := by decide +kernel
theorem dX6_readNumber_10 : decode cX6_readNumber 10 = .ok (.if_icmp .eq 13, 3) := by decide +kernel
theorem dX6_readNumber_13 : decode cX6_readNumber 13 = .ok (.iload_n 2, 1) := by decide +kernel
theorem dX6_readNumber_14 : decode cX6_readNumber 14 = .ok (.ifCond .lt 9, 3) := by decide +kernel
theorem dX6_readNumber_17 : decode cX6_readNumber 17 = .ok (.iload_n 2, 1) := by decide +kernel
theorem dX6_readNumber_18 : decode cX6_readNumber 18 = .ok (.aload_n 1, 1) := by decide +kernel
theorem dX6_readNumber_19 : decode cX6_readNumber 19 = .ok (.arraylength, 1) := by decide +kernel
theorem dX6_readNumber_20 : decode cX6_readNumber 20 = .ok (.if_icmp .lt 5, 3) := by decide +kernel
theorem dX6_readNumber_23 : decode cX6_readNumber 23 = .ok (.iconst 0, 1) := by decide +kernel
theorem dX6_readNumber_24 : decode cX6_readNumber 24 = .ok (.ireturn, 1) := by decide +kernel
theorem dX6_readNumber_25 : decode cX6_readNumber 25 = .ok (.aload_n 1, 1) := by decide +kernel
theorem dX6_readNumber_26 : decode cX6_readNumber 26 = .ok (.iload_n 2, 1) := by decide +kernel
theorem dX6_readNumber_27 : decode cX6_readNumber 27 = .ok (.iload 4, 2) := by decide +kernel
theorem dX6_readNumber_29 : decode cX6_readNumber 29 = .ok (.iastore, 1) := by decide +kernel
theorem dX6_readNumber_30 : decode cX6_readNumber 30 = .ok (.aload_n 0, 1) := by decide +kernel
theorem dX6_readNumber_31 : decode cX6_readNumber 31 = .ok (.invokevirtual 53, 3) := by decide +kernel
theorem dX6_readNumber_34 : decode cX6_readNumber 34 = .ok (.iconst 1, 1) := by decide +kernel
theorem dX6_readNumber_35 : decode cX6_readNumber 35 = .ok (.ireturn, 1) := by decide +kernel
theorem dX7_init_0 : decode cX7_init 0 = .ok (.aload_n 0, 1) := by decide +kernel
theorem dX7_init_1 : decode cX7_init 1 = .ok (.invokespecial 3, 3) := by decide +kernel
theorem dX7_init_4 : decode cX7_init 4 = .ok (.aload_n 0, 1) := by decide +kernel
theorem dX7_init_5 : decode cX7_init 5 = .ok (.bipush 12, 2) := by decide +kernel
theorem dX7_init_7 : decode cX7_init 7 = .ok (.anewarray 9, 3) := by decide +kernel
theorem dX7_init_10 : decode cX7_init 10 = .ok (.putfield 11, 3) := by decide +kernel
theorem dX7_init_13 : decode cX7_init 13 = .ok (.aload_n 0, 1) := by decide +kernel
theorem dX7_init_14 : decode cX7_init 14 = .ok (.iconst 0, 1) := by decide +kernel
theorem dX7_init_15 : decode cX7_init 15 = .ok (.putfield 17, 3) := by decide +kernel
theorem dX7_init_18 : decode cX7_init 18 = .ok (.aload_n 0, 1) := by decide +kernel
theorem dX7_init_19 : decode cX7_init 19 = .ok (.iconst 0, 1) := by decide +kernel
theorem dX7_init_20 : decode cX7_init 20 = .ok (.putfield 21, 3) := by decide +kernel
theorem dX7_init_23 : decode cX7_init 23 = .ok (.iconst 0, 1) := by decide +kernel
theorem dX7_init_24 : decode cX7_init 24 = .ok (.istore_n 1, 1) := by decide +kernel
theorem dX7_init_25 : decode cX7_init 25 = .ok (.iload_n 1, 1) := by decide +kernel
theorem dX7_init_26 : decode cX7_init 26 = .ok (.bipush 12, 2) := by decide +kernel
theorem dX7_init_28 : decode cX7_init 28 = .ok (.if_icmp .ge 22, 3) := by decide +kernel
theorem dX7_init_31 : decode cX7_init 31 = .ok (.aload_n 0, 1) := by decide +kernel
theorem dX7_init_32 : decode cX7_init 32 = .ok (.getfield 11, 3) := by decide +kernel
