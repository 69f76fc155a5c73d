theorem dX12_fitting_40 : decode cX12_fitting 40 = .ok (.aload_n 0, 1) := by decide +kernel
theorem dX12_fitting_41 : decode cX12_fitting 41 = .ok (.iload_n 2, 1) := by decide +kernel
theorem dX12_fitting_42 : decode cX12_fitting 42 = .ok (.aload_n 0, 1) := by decide +kernel
theorem dX12_fitting_43 : decode cX12_fitting 43 = .ok (.getfield 29, 3) := by decide +kernel
theorem dX12_fitting_46 : decode cX12_fitting 46 = .ok (.iload 4, 2) := by decide +kernel
theorem dX12_fitting_48 : decode cX12_fitting 48 = .ok (.baload, 1) := by decide +kernel
theorem dX12_fitting_49 : decode cX12_fitting 49 = .ok (.invokevirtual 394, 3) := by decide +kernel
theorem dX12_fitting_52 : decode cX12_fitting 52 = .ok (.aload_n 0, 1) := by decide +kernel
theorem dX12_fitting_53 : decode cX12_fitting 53 = .ok (.getfield 29, 3) := by decide +kernel
theorem dX12_fitting_56 : decode cX12_fitting 56 = .ok (.iload 4, 2) := by decide +kernel
theorem dX12_fitting_58 : decode cX12_fitting 58 = .ok (.iconst 1, 1) := by decide +kernel
theorem dX12_fitting_59 : decode cX12_fitting 59 = .ok (.iadd, 1) := by decide +kernel
theorem dX12_fitting_60 : decode cX12_fitting 60 = .ok (.baload, 1) := by decide +kernel
theorem dX12_fitting_61 : decode cX12_fitting 61 = .ok (.isub, 1) := by decide +kernel
theorem dX12_fitting_62 : decode cX12_fitting 62 = .ok (.invokestatic 397, 3) := by decide +kernel
theorem dX12_fitting_65 : decode cX12_fitting 65 = .ok (.iconst 1, 1) := by decide +kernel
theorem dX12_fitting_66 : decode cX12_fitting 66 = .ok (.if_icmp .gt 7, 3) := by decide +kernel
theorem dX12_fitting_69 : decode cX12_fitting 69 = .ok (.iconst 1, 1) := by decide +kernel
theorem dX12_fitting_70 : decode cX12_fitting 70 = .ok (.goto 4, 3) := by decide +kernel
theorem dX12_fitting_73 : decode cX12_fitting 73 = .ok (.iconst 0, 1) := by decide +kernel
theorem dX12_fitting_74 : decode cX12_fitting 74 = .ok (.istore_n 3, 1) := by decide +kernel
theorem dX12_fitting_75 : decode cX12_fitting 75 = .ok (.iinc 4 2, 3) := by decide +kernel
theorem dX12_fitting_78 : decode cX12_fitting 78 = .ok (.goto (-51), 3) := by decide +kernel
theorem dX12_fitting_81 : decode cX12_fitting 81 = .ok (.iload_n 1, 1) := by decide +kernel
theorem dX12_fitting_82 : decode cX12_fitting 82 = .ok (.iload_n 3, 1) := by decide +kernel
theorem dX12_fitting_83 : decode cX12_fitting 83 = .ok (.ifCond .eq 9, 3) := by decide +kernel
theorem dX12_fitting_86 : decode cX12_fitting 86 = .ok (.iconst 1, 1) := by decide +kernel
theorem dX12_fitting_87 : decode cX12_fitting 87 = .ok (.iload_n 2, 1) := by decide +kernel
theorem dX12_fitting_88 : decode cX12_fitting 88 = .ok (.ishl, 1) := by decide +kernel
theorem dX12_fitting_89 : decode cX12_fitting 89 = .ok (.goto 4, 3) := by decide +kernel
theorem dX12_fitting_92 : decode cX12_fitting 92 = .ok (.iconst 0, 1) := by decide +kernel
theorem dX12_fitting_93 : decode cX12_fitting 93 = .ok (.ior, 1) := by decide +kernel
theorem dX12_fitting_94 : decode cX12_fitting 94 = .ok (.istore_n 1, 1) := by decide +kernel
theorem dX12_fitting_95 : decode cX12_fitting 95 = .ok (.iinc 2 1, 3) := by decide +kernel
theorem dX12_fitting_98 : decode cX12_fitting 98 = .ok (.goto (-94), 3) := by decide +kernel
theorem dX12_fitting_101 : decode cX12_fitting 101 = .ok (.iload_n 1, 1) := by decide +kernel
theorem dX12_fitting_102 : decode cX12_fitting 102 = .ok (.ireturn, 1) := by decide +kernel
theorem dX12_weightsOf_0 : decode cX12_weightsOf 0 = .ok (.iconst 0, 1) := by decide +kernel
theorem dX12_weightsOf_1 : decode cX12_weightsOf 1 = .ok (.istore_n 2, 1) := by decide +kernel
theorem dX12_weightsOf_2 : decode cX12_weightsOf 2 = .ok (.iconst 0, 1) := by decide +kernel
theorem dX12_weightsOf_3 : decode cX12_weightsOf 3 = .ok (.istore_n 3, 1) := by decide +kernel
theorem dX12_weightsOf_4 : decode cX12_weightsOf 4 = .ok (.iload_n 3, 1) := by decide +kernel
theorem dX12_weightsOf_5 : decode cX12_weightsOf 5 = .ok (.bipush 8, 2) := by decide +kernel
theorem dX12_weightsOf_7 : decode cX12_weightsOf 7 = .ok (.if_icmp .gt 29, 3) := by decide +kernel
theorem dX12_weightsOf_10 : decode cX12_weightsOf 10 = .ok (.iload_n 2, 1) := by decide +kernel
theorem dX12_weightsOf_11 : decode cX12_weightsOf 11 = .ok (.iload_n 1, 1) := by decide +kernel
theorem dX12_weightsOf_12 : decode cX12_weightsOf 12 = .ok (.iload_n 3, 1) := by decide +kernel
theorem dX12_weightsOf_13 : decode cX12_weightsOf 13 = .ok (.invokestatic 323, 3) := by decide +kernel
theorem dX12_weightsOf_16 : decode cX12_weightsOf 16 = .ok (.ifCond .eq 11, 3) := by decide +kernel
theorem dX12_weightsOf_19 : decode cX12_weightsOf 19 = .ok (.aload_n 0, 1) := by decide +kernel
theorem dX12_weightsOf_20 : decode cX12_weightsOf 20 = .ok (.iload_n 3, 1) := by decide +kernel
theorem dX12_weightsOf_21 : decode cX12_weightsOf 21 = .ok (.invokevirtual 351, 3) := by decide +kernel
theorem dX12_weightsOf_24 : decode cX12_weightsOf 24 = .ok (.goto 4, 3) := by decide +kernel
theorem dX12_weightsOf_27 : decode cX12_weightsOf 27 = .ok (.iconst 0, 1) := by decide +kernel
theorem dX12_weightsOf_28 : decode cX12_weightsOf 28 = .ok (.iadd, 1) := by decide +kernel
theorem dX12_weightsOf_29 : decode cX12_weightsOf 29 = .ok (.istore_n 2, 1) := by decide +kernel
theorem dX12_weightsOf_30 : decode cX12_weightsOf 30 = .ok (.iinc 3 1, 3) := by decide +kernel
theorem dX12_weightsOf_33 : decode cX12_weightsOf 33 = .ok (.goto (-29), 3) := by decide +kernel
theorem dX12_weightsOf_36 : decode cX12_weightsOf 36 = .ok (.iload_n 2, 1) := by decide +kernel
theorem dX12_weightsOf_37 : decode cX12_weightsOf 37 = .ok (.ireturn, 1) := by decide +kernel
theorem dX12_likelyOf_0 : decode cX12_likelyOf 0 = .ok (.iconst (-1), 1) := by decide +kernel
theorem dX12_likelyOf_1 : decode cX12_likelyOf 1 = .ok (.istore_n 2, 1) := by decide +kernel
theorem dX12_likelyOf_2 : decode cX12_likelyOf 2 = .ok (.iconst 0, 1) := by decide +kernel
theorem dX12_likelyOf_3 : decode cX12_likelyOf 3 = .ok (.istore_n 3, 1) := by decide +kernel
theorem dX12_likelyOf_4 : decode cX12_likelyOf 4 = .ok (.iload_n 3, 1) := by decide +kernel
theorem dX12_likelyOf_5 : decode cX12_likelyOf 5 = .ok (.bipush 8, 2) := by decide +kernel
theorem dX12_likelyOf_7 : decode cX12_likelyOf 7 = .ok (.if_icmp .gt 37, 3) := by decide +kernel
theorem dX12_likelyOf_10 : decode cX12_likelyOf 10 = .ok (.iload_n 1, 1) := by decide +kernel
theorem dX12_likelyOf_11 : decode cX12_likelyOf 11 = .ok (.iload_n 3, 1) := by decide +kernel
theorem dX12_likelyOf_12 : decode cX12_likelyOf 12 = .ok (.invokestatic 323, 3) := by decide +kernel
theorem dX12_likelyOf_15 : decode cX12_likelyOf 15 = .ok (.ifCond .eq 23, 3) := by decide +kernel
theorem dX12_likelyOf_18 : decode cX12_likelyOf 18 = .ok (.iload_n 2, 1) := by decide +kernel
theorem dX12_likelyOf_19 : decode cX12_likelyOf 19 = .ok (.iconst (-1), 1) := by decide +kernel
theorem dX12_likelyOf_20 : decode cX12_likelyOf 20 = .ok (.if_icmp .eq 16, 3) := by decide +kernel
theorem dX12_likelyOf_23 : decode cX12_likelyOf 23 = .ok (.aload_n 0, 1) := by decide +kernel
theorem dX12_likelyOf_24 : decode cX12_likelyOf 24 = .ok (.iload_n 3, 1) := by decide +kernel
theorem dX12_likelyOf_25 : decode cX12_likelyOf 25 = .ok (.invokevirtual 351, 3) := by decide +kernel
theorem dX12_likelyOf_28 : decode cX12_likelyOf 28 = .ok (.aload_n 0, 1) := by decide +kernel
theorem dX12_likelyOf_29 : decode cX12_likelyOf 29 = .ok (.iload_n 2, 1) := by decide +kernel
theorem dX12_likelyOf_30 : decode cX12_likelyOf 30 = .ok (.invokevirtual 351, 3) := by decide +kernel
theorem dX12_likelyOf_33 : decode cX12_likelyOf 33 = .ok (.if_icmp .le 5, 3) := by decide +kernel
theorem dX12_likelyOf_36 : decode cX12_likelyOf 36 = .ok (.iload_n 3, 1) := by decide +kernel
theorem dX12_likelyOf_37 : decode cX12_likelyOf 37 = .ok (.istore_n 2, 1) := by decide +kernel
theorem dX12_likelyOf_38 : decode cX12_likelyOf 38 = .ok (.iinc 3 1, 3) := by decide +kernel
theorem dX12_likelyOf_41 : decode cX12_likelyOf 41 = .ok (.goto (-37), 3) := by decide +kernel
theorem dX12_likelyOf_44 : decode cX12_likelyOf 44 = .ok (.iload_n 2, 1) := by decide +kernel
theorem dX12_likelyOf_45 : decode cX12_likelyOf 45 = .ok (.ireturn, 1) := by decide +kernel
theorem dX12_expectOf_0 : decode cX12_expectOf 0 = .ok (.iconst 0, 1) := by decide +kernel
theorem dX12_expectOf_1 : decode cX12_expectOf 1 = .ok (.istore_n 2, 1) := by decide +kernel
theorem dX12_expectOf_2 : decode cX12_expectOf 2 = .ok (.iconst 0, 1) := by decide +kernel
theorem dX12_expectOf_3 : decode cX12_expectOf 3 = .ok (.istore_n 3, 1) := by decide +kernel
theorem dX12_expectOf_4 : decode cX12_expectOf 4 = .ok (.iload_n 3, 1) := by decide +kernel
theorem dX12_expectOf_5 : decode cX12_expectOf 5 = .ok (.bipush 8, 2) := by decide +kernel
theorem dX12_expectOf_7 : decode cX12_expectOf 7 = .ok (.if_icmp .gt 36, 3) := by decide +kernel
theorem dX12_expectOf_10 : decode cX12_expectOf 10 = .ok (.iload_n 2, 1) := by decide +kernel
theorem dX12_expectOf_11 : decode cX12_expectOf 11 = .ok (.iload_n 1, 1) := by decide +kernel
theorem dX12_expectOf_12 : decode cX12_expectOf 12 = .ok (.iload_n 3, 1) := by decide +kernel
theorem dX12_expectOf_13 : decode cX12_expectOf 13 = .ok (.invokestatic 323, 3) := by decide +kernel
theorem dX12_expectOf_16 : decode cX12_expectOf 16 = .ok (.ifCond .eq 18, 3) := by decide +kernel
theorem dX12_expectOf_19 : decode cX12_expectOf 19 = .ok (.aload_n 0, 1) := by decide +kernel
theorem dX12_expectOf_20 : decode cX12_expectOf 20 = .ok (.iload_n 3, 1) := by decide +kernel
theorem dX12_expectOf_21 : decode cX12_expectOf 21 = .ok (.invokevirtual 351, 3) := by decide +kernel
theorem dX12_expectOf_24 : decode cX12_expectOf 24 = .ok (.aload_n 0, 1) := by decide +kernel
theorem dX12_expectOf_25 : decode cX12_expectOf 25 = .ok (.iload_n 3, 1) := by decide +kernel
theorem dX12_expectOf_26 : decode cX12_expectOf 26 = .ok (.iconst 3, 1) := by decide +kernel
theorem dX12_expectOf_27 : decode cX12_expectOf 27 = .ok (.invokevirtual 80, 3) := by decide +kernel
theorem dX12_expectOf_30 : decode cX12_expectOf 30 = .ok (.imul, 1) := by decide +kernel
theorem dX12_expectOf_31 : decode cX12_expectOf 31 = .ok (.goto 4, 3) := by decide +kernel
theorem dX12_expectOf_34 : decode cX12_expectOf 34 = .ok (.iconst 0, 1) := by decide +kernel
theorem dX12_expectOf_35 : decode cX12_expectOf 35 = .ok (.iadd, 1) := by decide +kernel
theorem dX12_expectOf_36 : decode cX12_expectOf 36 = .ok (.istore_n 2, 1) := by decide +kernel
theorem dX12_expectOf_37 : decode cX12_expectOf 37 = .ok (.iinc 3 1, 3) := by decide +kernel
theorem dX12_expectOf_40 : decode cX12_expectOf 40 = .ok (.goto (-36), 3) := by decide +kernel
theorem dX12_expectOf_43 : decode cX12_expectOf 43 = .ok (.aload_n 0, 1) := by decide +kernel
theorem dX12_expectOf_44 : decode cX12_expectOf 44 = .ok (.iload_n 1, 1) := by decide +kernel
theorem dX12_expectOf_45 : decode cX12_expectOf 45 = .ok (.invokevirtual 400, 3) := by decide +kernel
theorem dX12_expectOf_48 : decode cX12_expectOf 48 = .ok (.istore_n 3, 1) := by decide +kernel
theorem dX12_expectOf_49 : decode cX12_expectOf 49 = .ok (.iload_n 3, 1) := by decide +kernel
theorem dX12_expectOf_50 : decode cX12_expectOf 50 = .ok (.ifCond .ne 7, 3) := by decide +kernel
theorem dX12_expectOf_53 : decode cX12_expectOf 53 = .ok (.iconst 0, 1) := by decide +kernel
theorem dX12_expectOf_54 : decode cX12_expectOf 54 = .ok (.goto 6, 3) := by decide +kernel
theorem dX12_expectOf_57 : decode cX12_expectOf 57 = .ok (.iload_n 2, 1) := by decide +kernel
theorem dX12_expectOf_58 : decode cX12_expectOf 58 = .ok (.iload_n 3, 1) := by decide +kernel
theorem dX12_expectOf_59 : decode cX12_expectOf 59 = .ok (.idiv, 1) := by decide +kernel
theorem dX12_expectOf_60 : decode cX12_expectOf 60 = .ok (.ireturn, 1) := by decide +kernel
theorem dX12_feels_0 : decode cX12_feels 0 = .ok (.aload_n 0, 1) := by decide +kernel
theorem dX12_feels_1 : decode cX12_feels 1 = .ok (.invokevirtual 255, 3) := by decide +kernel
theorem dX12_feels_4 : decode cX12_feels 4 = .ok (.aload_n 0, 1) := by decide +kernel
theorem dX12_feels_5 : decode cX12_feels 5 = .ok (.aload_n 0, 1) := by decide +kernel
theorem dX12_feels_6 : decode cX12_feels 6 = .ok (.invokevirtual 403, 3) := by decide +kernel
theorem dX12_feels_9 : decode cX12_feels 9 = .ok (.ifCond .ne 7, 3) := by decide +kernel
theorem dX12_feels_12 : decode cX12_feels 12 = .ok (.iconst 1, 1) := by decide +kernel
theorem dX12_feels_13 : decode cX12_feels 13 = .ok (.goto 4, 3) := by decide +kernel
theorem dX12_feels_16 : decode cX12_feels 16 = .ok (.iconst 0, 1) := by decide +kernel
theorem dX12_feels_17 : decode cX12_feels 17 = .ok (.iconst 1, 1) := by decide +kernel
theorem dX12_feels_18 : decode cX12_feels 18 = .ok (.invokevirtual 266, 3) := by decide +kernel
theorem dX12_feels_21 : decode cX12_feels 21 = .ok (.ifCond .ne 25, 3) := by decide +kernel
theorem dX12_feels_24 : decode cX12_feels 24 = .ok (.aload_n 0, 1) := by decide +kernel
theorem dX12_feels_25 : decode cX12_feels 25 = .ok (.iload_n 1, 1) := by decide +kernel
theorem dX12_feels_26 : decode cX12_feels 26 = .ok (.iconst 0, 1) := by decide +kernel
theorem dX12_feels_27 : decode cX12_feels 27 = .ok (.iconst 2, 1) := by decide +kernel
theorem dX12_feels_28 : decode cX12_feels 28 = .ok (.invokestatic 87, 3) := by decide +kernel
theorem dX12_feels_31 : decode cX12_feels 31 = .ok (.ifCond .ne 7, 3) := by decide +kernel
theorem dX12_feels_34 : decode cX12_feels 34 = .ok (.iconst 1, 1) := by decide +kernel
theorem dX12_feels_35 : decode cX12_feels 35 = .ok (.goto 4, 3) := by decide +kernel
theorem dX12_feels_38 : decode cX12_feels 38 = .ok (.iconst 0, 1) := by decide +kernel
theorem dX12_feels_39 : decode cX12_feels 39 = .ok (.iconst 2, 1) := by decide +kernel
theorem dX12_feels_40 : decode cX12_feels 40 = .ok (.invokevirtual 266, 3) := by decide +kernel
theorem dX12_feels_43 : decode cX12_feels 43 = .ok (.ifCond .eq 5, 3) := by decide +kernel
theorem dX12_feels_46 : decode cX12_feels 46 = .ok (.iconst 0, 1) := by decide +kernel
theorem dX12_feels_47 : decode cX12_feels 47 = .ok (.ireturn, 1) := by decide +kernel
theorem dX12_feels_48 : decode cX12_feels 48 = .ok (.aload_n 0, 1) := by decide +kernel
theorem dX12_feels_49 : decode cX12_feels 49 = .ok (.invokevirtual 406, 3) := by decide +kernel
theorem dX12_feels_52 : decode cX12_feels 52 = .ok (.istore_n 2, 1) := by decide +kernel
theorem dX12_feels_53 : decode cX12_feels 53 = .ok (.iload_n 1, 1) := by decide +kernel
theorem dX12_feels_54 : decode cX12_feels 54 = .ok (.ifCond .ne 7, 3) := by decide +kernel
theorem dX12_feels_57 : decode cX12_feels 57 = .ok (.iload_n 2, 1) := by decide +kernel
theorem dX12_feels_58 : decode cX12_feels 58 = .ok (.goto 21, 3) := by decide +kernel
theorem dX12_feels_61 : decode cX12_feels 61 = .ok (.iload_n 1, 1) := by decide +kernel
theorem dX12_feels_62 : decode cX12_feels 62 = .ok (.iconst 1, 1) := by decide +kernel
theorem dX12_feels_63 : decode cX12_feels 63 = .ok (.if_icmp .ne 11, 3) := by decide +kernel
theorem dX12_feels_66 : decode cX12_feels 66 = .ok (.aload_n 0, 1) := by decide +kernel
theorem dX12_feels_67 : decode cX12_feels 67 = .ok (.iload_n 2, 1) := by decide +kernel
theorem dX12_feels_68 : decode cX12_feels 68 = .ok (.invokevirtual 409, 3) := by decide +kernel
theorem dX12_feels_71 : decode cX12_feels 71 = .ok (.goto 8, 3) := by decide +kernel
theorem dX12_feels_74 : decode cX12_feels 74 = .ok (.aload_n 0, 1) := by decide +kernel
theorem dX12_feels_75 : decode cX12_feels 75 = .ok (.iload_n 2, 1) := by decide +kernel
theorem dX12_feels_76 : decode cX12_feels 76 = .ok (.invokevirtual 412, 3) := by decide +kernel
theorem dX12_feels_79 : decode cX12_feels 79 = .ok (.ireturn, 1) := by decide +kernel
theorem dX12_odds_0 : decode cX12_odds 0 = .ok (.aload_n 0, 1) := by decide +kernel
theorem dX12_odds_1 : decode cX12_odds 1 = .ok (.invokevirtual 255, 3) := by decide +kernel
theorem dX12_odds_4 : decode cX12_odds 4 = .ok (.aload_n 0, 1) := by decide +kernel
theorem dX12_odds_5 : decode cX12_odds 5 = .ok (.iload_n 1, 1) := by decide +kernel
theorem dX12_odds_6 : decode cX12_odds 6 = .ok (.iconst 0, 1) := by decide +kernel
theorem dX12_odds_7 : decode cX12_odds 7 = .ok (.bipush 8, 2) := by decide +kernel
theorem dX12_odds_9 : decode cX12_odds 9 = .ok (.invokestatic 87, 3) := by decide +kernel
theorem dX12_odds_12 : decode cX12_odds 12 = .ok (.ifCond .ne 7, 3) := by decide +kernel
theorem dX12_odds_15 : decode cX12_odds 15 = .ok (.iconst 1, 1) := by decide +kernel
theorem dX12_odds_16 : decode cX12_odds 16 = .ok (.goto 4, 3) := by decide +kernel
theorem dX12_odds_19 : decode cX12_odds 19 = .ok (.iconst 0, 1) := by decide +kernel
theorem dX12_odds_20 : decode cX12_odds 20 = .ok (.iconst 1, 1) := by decide +kernel
theorem dX12_odds_21 : decode cX12_odds 21 = .ok (.invokevirtual 266, 3) := by decide +kernel
theorem dX12_odds_24 : decode cX12_odds 24 = .ok (.ifCond .ne 23, 3) := by decide +kernel
theorem dX12_odds_27 : decode cX12_odds 27 = .ok (.aload_n 0, 1) := by decide +kernel
theorem dX12_odds_28 : decode cX12_odds 28 = .ok (.aload_n 0, 1) := by decide +kernel
theorem dX12_odds_29 : decode cX12_odds 29 = .ok (.invokevirtual 403, 3) := by decide +kernel
theorem dX12_odds_32 : decode cX12_odds 32 = .ok (.ifCond .ne 7, 3) := by decide +kernel
theorem dX12_odds_35 : decode cX12_odds 35 = .ok (.iconst 1, 1) := by decide +kernel
theorem dX12_odds_36 : decode cX12_odds 36 = .ok (.goto 4, 3) := by decide +kernel
theorem dX12_odds_39 : decode cX12_odds 39 = .ok (.iconst 0, 1) := by decide +kernel
theorem dX12_odds_40 : decode cX12_odds 40 = .ok (.iconst 2, 1) := by decide +kernel
theorem dX12_odds_41 : decode cX12_odds 41 = .ok (.invokevirtual 266, 3) := by decide +kernel
theorem dX12_odds_44 : decode cX12_odds 44 = .ok (.ifCond .eq 5, 3) := by decide +kernel
theorem dX12_odds_47 : decode cX12_odds 47 = .ok (.iconst 0, 1) := by decide +kernel
theorem dX12_odds_48 : decode cX12_odds 48 = .ok (.ireturn, 1) := by decide +kernel
theorem dX12_odds_49 : decode cX12_odds 49 = .ok (.aload_n 0, 1) := by decide +kernel
theorem dX12_odds_50 : decode cX12_odds 50 = .ok (.invokevirtual 406, 3) := by decide +kernel
theorem dX12_odds_53 : decode cX12_odds 53 = .ok (.istore_n 2, 1) := by decide +kernel
theorem dX12_odds_54 : decode cX12_odds 54 = .ok (.iload_n 2, 1) := by decide +kernel
theorem dX12_odds_55 : decode cX12_odds 55 = .ok (.iload_n 1, 1) := by decide +kernel
theorem dX12_odds_56 : decode cX12_odds 56 = .ok (.invokestatic 323, 3) := by decide +kernel
theorem dX12_odds_59 : decode cX12_odds 59 = .ok (.ifCond .eq 21, 3) := by decide +kernel
theorem dX12_odds_62 : decode cX12_odds 62 = .ok (.sipush 10000, 3) := by decide +kernel
theorem dX12_odds_65 : decode cX12_odds 65 = .ok (.aload_n 0, 1) := by decide +kernel
theorem dX12_odds_66 : decode cX12_odds 66 = .ok (.iload_n 1, 1) := by decide +kernel
theorem dX12_odds_67 : decode cX12_odds 67 = .ok (.invokevirtual 351, 3) := by decide +kernel
theorem dX12_odds_70 : decode cX12_odds 70 = .ok (.imul, 1) := by decide +kernel
theorem dX12_odds_71 : decode cX12_odds 71 = .ok (.aload_n 0, 1) := by decide +kernel
theorem dX12_odds_72 : decode cX12_odds 72 = .ok (.iload_n 2, 1) := by decide +kernel
theorem dX12_odds_73 : decode cX12_odds 73 = .ok (.invokevirtual 400, 3) := by decide +kernel
theorem dX12_odds_76 : decode cX12_odds 76 = .ok (.idiv, 1) := by decide +kernel
theorem dX12_odds_77 : decode cX12_odds 77 = .ok (.goto 4, 3) := by decide +kernel
theorem dX12_odds_80 : decode cX12_odds 80 = .ok (.iconst 0, 1) := by decide +kernel
theorem dX12_odds_81 : decode cX12_odds 81 = .ok (.ireturn, 1) := by decide +kernel
theorem dX12_ask_0 : decode cX12_ask 0 = .ok (.aload_n 0, 1) := by decide +kernel
theorem dX12_ask_1 : decode cX12_ask 1 = .ok (.invokevirtual 255, 3) := by decide +kernel
theorem dX12_ask_4 : decode cX12_ask 4 = .ok (.aload_n 0, 1) := by decide +kernel
theorem dX12_ask_5 : decode cX12_ask 5 = .ok (.aload_n 0, 1) := by decide +kernel
theorem dX12_ask_6 : decode cX12_ask 6 = .ok (.invokevirtual 403, 3) := by decide +kernel
theorem dX12_ask_9 : decode cX12_ask 9 = .ok (.ifCond .ne 7, 3) := by decide +kernel
theorem dX12_ask_12 : decode cX12_ask 12 = .ok (.iconst 1, 1) := by decide +kernel
theorem dX12_ask_13 : decode cX12_ask 13 = .ok (.goto 4, 3) := by decide +kernel
theorem dX12_ask_16 : decode cX12_ask 16 = .ok (.iconst 0, 1) := by decide +kernel
theorem dX12_ask_17 : decode cX12_ask 17 = .ok (.iconst 1, 1) := by decide +kernel
theorem dX12_ask_18 : decode cX12_ask 18 = .ok (.invokevirtual 266, 3) := by decide +kernel
theorem dX12_ask_21 : decode cX12_ask 21 = .ok (.ifCond .eq 5, 3) := by decide +kernel
theorem dX12_ask_24 : decode cX12_ask 24 = .ok (.iconst 0, 1) := by decide +kernel
theorem dX12_ask_25 : decode cX12_ask 25 = .ok (.ireturn, 1) := by decide +kernel
theorem dX12_ask_26 : decode cX12_ask 26 = .ok (.aload_n 0, 1) := by decide +kernel
theorem dX12_ask_27 : decode cX12_ask 27 = .ok (.invokevirtual 406, 3) := by decide +kernel
theorem dX12_ask_30 : decode cX12_ask 30 = .ok (.istore_n 1, 1) := by decide +kernel
theorem dX12_ask_31 : decode cX12_ask 31 = .ok (.iload_n 1, 1) := by decide +kernel
theorem dX12_ask_32 : decode cX12_ask 32 = .ok (.invokestatic 269, 3) := by decide +kernel
theorem dX12_ask_35 : decode cX12_ask 35 = .ok (.iconst 2, 1) := by decide +kernel
theorem dX12_ask_36 : decode cX12_ask 36 = .ok (.if_icmp .ge 5, 3) := by decide +kernel
theorem dX12_ask_39 : decode cX12_ask 39 = .ok (.iconst (-1), 1) := by decide +kernel
theorem dX12_ask_40 : decode cX12_ask 40 = .ok (.ireturn, 1) := by decide +kernel
theorem dX12_ask_41 : decode cX12_ask 41 = .ok (.iconst (-1), 1) := by decide +kernel
theorem dX12_ask_42 : decode cX12_ask 42 = .ok (.istore_n 2, 1) := by decide +kernel
theorem dX12_ask_43 : decode cX12_ask 43 = .ok (.ldc 133, 2) := by decide +kernel
theorem dX12_ask_45 : decode cX12_ask 45 = .ok (.istore_n 3, 1) := by decide +kernel
theorem dX12_ask_46 : decode cX12_ask 46 = .ok (.iconst 0, 1) := by decide +kernel
theorem dX12_ask_47 : decode cX12_ask 47 = .ok (.istore 4, 2) := by decide +kernel
theorem dX12_ask_49 : decode cX12_ask 49 = .ok (.iload 4, 2) := by decide +kernel
theorem dX12_ask_51 : decode cX12_ask 51 = .ok (.iconst 3, 1) := by decide +kernel
theorem dX12_ask_52 : decode cX12_ask 52 = .ok (.if_icmp .ge 123, 3) := by decide +kernel
theorem dX12_ask_55 : decode cX12_ask 55 = .ok (.iconst 0, 1) := by decide +kernel
theorem dX12_ask_56 : decode cX12_ask 56 = .ok (.istore 5, 2) := by decide +kernel
theorem dX12_ask_58 : decode cX12_ask 58 = .ok (.iconst 0, 1) := by decide +kernel
theorem dX12_ask_59 : decode cX12_ask 59 = .ok (.istore 6, 2) := by decide +kernel
theorem dX12_ask_61 : decode cX12_ask 61 = .ok (.iload 6, 2) := by decide +kernel
theorem dX12_ask_63 : decode cX12_ask 63 = .ok (.bipush 8, 2) := by decide +kernel
theorem dX12_ask_65 : decode cX12_ask 65 = .ok (.if_icmp .gt 84, 3) := by decide +kernel
theorem dX12_ask_68 : decode cX12_ask 68 = .ok (.iconst 0, 1) := by decide +kernel
theorem dX12_ask_69 : decode cX12_ask 69 = .ok (.istore 7, 2) := by decide +kernel
theorem dX12_ask_71 : decode cX12_ask 71 = .ok (.iconst 0, 1) := by decide +kernel
theorem dX12_ask_72 : decode cX12_ask 72 = .ok (.istore 8, 2) := by decide +kernel
theorem dX12_ask_74 : decode cX12_ask 74 = .ok (.iload 8, 2) := by decide +kernel
theorem dX12_ask_76 : decode cX12_ask 76 = .ok (.bipush 8, 2) := by decide +kernel
theorem dX12_ask_78 : decode cX12_ask 78 = .ok (.if_icmp .gt 56, 3) := by decide +kernel
theorem dX12_ask_81 : decode cX12_ask 81 = .ok (.iload 7, 2) := by decide +kernel
theorem dX12_ask_83 : decode cX12_ask 83 = .ok (.iload_n 1, 1) := by decide +kernel
theorem dX12_ask_84 : decode cX12_ask 84 = .ok (.iload 6, 2) := by decide +kernel
theorem dX12_ask_86 : decode cX12_ask 86 = .ok (.invokestatic 323, 3) := by decide +kernel
theorem dX12_ask_89 : decode cX12_ask 89 = .ok (.ifCond .eq 35, 3) := by decide +kernel
theorem dX12_ask_92 : decode cX12_ask 92 = .ok (.iload_n 1, 1) := by decide +kernel
theorem dX12_ask_93 : decode cX12_ask 93 = .ok (.iload 8, 2) := by decide +kernel
theorem dX12_ask_95 : decode cX12_ask 95 = .ok (.invokestatic 323, 3) := by decide +kernel
theorem dX12_ask_98 : decode cX12_ask 98 = .ok (.ifCond .eq 26, 3) := by decide +kernel
theorem dX12_ask_101 : decode cX12_ask 101 = .ok (.aload_n 0, 1) := by decide +kernel
theorem dX12_ask_102 : decode cX12_ask 102 = .ok (.iload 6, 2) := by decide +kernel
theorem dX12_ask_104 : decode cX12_ask 104 = .ok (.iload 4, 2) := by decide +kernel
theorem dX12_ask_106 : decode cX12_ask 106 = .ok (.invokevirtual 394, 3) := by decide +kernel
theorem dX12_ask_109 : decode cX12_ask 109 = .ok (.aload_n 0, 1) := by decide +kernel
theorem dX12_ask_110 : decode cX12_ask 110 = .ok (.iload 8, 2) := by decide +kernel
theorem dX12_ask_112 : decode cX12_ask 112 = .ok (.iload 4, 2) := by decide +kernel
theorem dX12_ask_114 : decode cX12_ask 114 = .ok (.invokevirtual 394, 3) := by decide +kernel
theorem dX12_ask_117 : decode cX12_ask 117 = .ok (.if_icmp .ne 7, 3) := by decide +kernel
theorem dX12_ask_120 : decode cX12_ask 120 = .ok (.iconst 1, 1) := by decide +kernel
theorem dX12_ask_121 : decode cX12_ask 121 = .ok (.goto 4, 3) := by decide +kernel
theorem dX12_ask_124 : decode cX12_ask 124 = .ok (.iconst 0, 1) := by decide +kernel
theorem dX12_ask_125 : decode cX12_ask 125 = .ok (.iadd, 1) := by decide +kernel
theorem dX12_ask_126 : decode cX12_ask 126 = .ok (.istore 7, 2) := by decide +kernel
theorem dX12_ask_128 : decode cX12_ask 128 = .ok (.iinc 8 1, 3) := by decide +kernel
theorem dX12_ask_131 : decode cX12_ask 131 = .ok (.goto (-57), 3) := by decide +kernel
theorem dX12_ask_134 : decode cX12_ask 134 = .ok (.iload 5, 2) := by decide +kernel
theorem dX12_ask_136 : decode cX12_ask 136 = .ok (.iload 7, 2) := by decide +kernel
theorem dX12_ask_138 : decode cX12_ask 138 = .ok (.invokestatic 285, 3) := by decide +kernel
theorem dX12_ask_141 : decode cX12_ask 141 = .ok (.istore 5, 2) := by decide +kernel
theorem dX12_ask_143 : decode cX12_ask 143 = .ok (.iinc 6 1, 3) := by decide +kernel
theorem dX12_ask_146 : decode cX12_ask 146 = .ok (.goto (-85), 3) := by decide +kernel
theorem dX12_ask_149 : decode cX12_ask 149 = .ok (.iload 5, 2) := by decide +kernel
theorem dX12_ask_151 : decode cX12_ask 151 = .ok (.iload_n 3, 1) := by decide +kernel
theorem dX12_ask_152 : decode cX12_ask 152 = .ok (.if_icmp .ge 8, 3) := by decide +kernel
theorem dX12_ask_155 : decode cX12_ask 155 = .ok (.iload 4, 2) := by decide +kernel
theorem dX12_ask_157 : decode cX12_ask 157 = .ok (.goto 4, 3) := by decide +kernel
theorem dX12_ask_160 : decode cX12_ask 160 = .ok (.iload_n 2, 1) := by decide +kernel
theorem dX12_ask_161 : decode cX12_ask 161 = .ok (.istore_n 2, 1) := by decide +kernel
theorem dX12_ask_162 : decode cX12_ask 162 = .ok (.iload_n 3, 1) := by decide +kernel
theorem dX12_ask_163 : decode cX12_ask 163 = .ok (.iload 5, 2) := by decide +kernel
theorem dX12_ask_165 : decode cX12_ask 165 = .ok (.invokestatic 311, 3) := by decide +kernel
theorem dX12_ask_168 : decode cX12_ask 168 = .ok (.istore_n 3, 1) := by decide +kernel
theorem dX12_ask_169 : decode cX12_ask 169 = .ok (.iinc 4 1, 3) := by decide +kernel
theorem dX12_ask_172 : decode cX12_ask 172 = .ok (.goto (-123), 3) := by decide +kernel
theorem dX12_ask_175 : decode cX12_ask 175 = .ok (.iload_n 2, 1) := by decide +kernel
theorem dX12_ask_176 : decode cX12_ask 176 = .ok (.ireturn, 1) := by decide +kernel
theorem dX12_noAhead_0 : decode cX12_noAhead 0 = .ok (.iload_n 0, 1) := by decide +kernel
theorem dX12_noAhead_1 : decode cX12_noAhead 1 = .ok (.iconst 0, 1) := by decide +kernel
theorem dX12_noAhead_2 : decode cX12_noAhead 2 = .ok (.bipush 100, 2) := by decide +kernel
theorem dX12_noAhead_4 : decode cX12_noAhead 4 = .ok (.invokestatic 87, 3) := by decide +kernel
theorem dX12_noAhead_7 : decode cX12_noAhead 7 = .ok (.ifCond .ne 7, 3) := by decide +kernel
theorem dX12_noAhead_10 : decode cX12_noAhead 10 = .ok (.iconst 1, 1) := by decide +kernel
theorem dX12_noAhead_11 : decode cX12_noAhead 11 = .ok (.goto 4, 3) := by decide +kernel
theorem dX12_noAhead_14 : decode cX12_noAhead 14 = .ok (.iconst 0, 1) := by decide +kernel
theorem dX12_noAhead_15 : decode cX12_noAhead 15 = .ok (.ireturn, 1) := by decide +kernel
theorem dX12_openedOnes_0 : decode cX12_openedOnes 0 = .ok (.iconst 0, 1) := by decide +kernel
theorem dX12_openedOnes_1 : decode cX12_openedOnes 1 = .ok (.istore_n 1, 1) := by decide +kernel
theorem dX12_openedOnes_2 : decode cX12_openedOnes 2 = .ok (.iconst 0, 1) := by decide +kernel
theorem dX12_openedOnes_3 : decode cX12_openedOnes 3 = .ok (.istore_n 2, 1) := by decide +kernel
theorem dX12_openedOnes_4 : decode cX12_openedOnes 4 = .ok (.iload_n 2, 1) := by decide +kernel
theorem dX12_openedOnes_5 : decode cX12_openedOnes 5 = .ok (.aload_n 0, 1) := by decide +kernel
theorem dX12_openedOnes_6 : decode cX12_openedOnes 6 = .ok (.invokevirtual 83, 3) := by decide +kernel
theorem dX12_openedOnes_9 : decode cX12_openedOnes 9 = .ok (.if_icmp .ge 27, 3) := by decide +kernel
theorem dX12_openedOnes_12 : decode cX12_openedOnes 12 = .ok (.iload_n 1, 1) := by decide +kernel
theorem dX12_openedOnes_13 : decode cX12_openedOnes 13 = .ok (.aload_n 0, 1) := by decide +kernel
theorem dX12_openedOnes_14 : decode cX12_openedOnes 14 = .ok (.iload_n 2, 1) := by decide +kernel
theorem dX12_openedOnes_15 : decode cX12_openedOnes 15 = .ok (.invokevirtual 329, 3) := by decide +kernel
theorem dX12_openedOnes_18 : decode cX12_openedOnes 18 = .ok (.ifCond .eq 9, 3) := by decide +kernel
theorem dX12_openedOnes_21 : decode cX12_openedOnes 21 = .ok (.iconst 1, 1) := by decide +kernel
theorem dX12_openedOnes_22 : decode cX12_openedOnes 22 = .ok (.iload_n 2, 1) := by decide +kernel
theorem dX12_openedOnes_23 : decode cX12_openedOnes 23 = .ok (.ishl, 1) := by decide +kernel
theorem dX12_openedOnes_24 : decode cX12_openedOnes 24 = .ok (.goto 4, 3) := by decide +kernel
theorem dX12_openedOnes_27 : decode cX12_openedOnes 27 = .ok (.iconst 0, 1) := by decide +kernel
theorem dX12_openedOnes_28 : decode cX12_openedOnes 28 = .ok (.ior, 1) := by decide +kernel
theorem dX12_openedOnes_29 : decode cX12_openedOnes 29 = .ok (.istore_n 1, 1) := by decide +kernel
theorem dX12_openedOnes_30 : decode cX12_openedOnes 30 = .ok (.iinc 2 1, 3) := by decide +kernel
theorem dX12_openedOnes_33 : decode cX12_openedOnes 33 = .ok (.goto (-29), 3) := by decide +kernel
theorem dX12_openedOnes_36 : decode cX12_openedOnes 36 = .ok (.iload_n 1, 1) := by decide +kernel
theorem dX12_openedOnes_37 : decode cX12_openedOnes 37 = .ok (.ireturn, 1) := by decide +kernel
theorem dX12_waits_0 : decode cX12_waits 0 = .ok (.aload_n 0, 1) := by decide +kernel
theorem dX12_waits_1 : decode cX12_waits 1 = .ok (.iconst 0, 1) := by decide +kernel
theorem dX12_waits_2 : decode cX12_waits 2 = .ok (.putfield 3, 3) := by decide +kernel
theorem dX12_waits_5 : decode cX12_waits 5 = .ok (.aload_n 0, 1) := by decide +kernel
theorem dX12_waits_6 : decode cX12_waits 6 = .ok (.aload_n 0, 1) := by decide +kernel
theorem dX12_waits_7 : decode cX12_waits 7 = .ok (.iload_n 1, 1) := by decide +kernel
theorem dX12_waits_8 : decode cX12_waits 8 = .ok (.invokevirtual 299, 3) := by decide +kernel
theorem dX12_waits_11 : decode cX12_waits 11 = .ok (.iconst 1, 1) := by decide +kernel
theorem dX12_waits_12 : decode cX12_waits 12 = .ok (.invokevirtual 266, 3) := by decide +kernel
theorem dX12_waits_15 : decode cX12_waits 15 = .ok (.ifCond .eq 5, 3) := by decide +kernel
theorem dX12_waits_18 : decode cX12_waits 18 = .ok (.iconst 0, 1) := by decide +kernel
theorem dX12_waits_19 : decode cX12_waits 19 = .ok (.ireturn, 1) := by decide +kernel
theorem dX12_waits_20 : decode cX12_waits 20 = .ok (.iconst (-1), 1) := by decide +kernel
theorem dX12_waits_21 : decode cX12_waits 21 = .ok (.istore_n 2, 1) := by decide +kernel
theorem dX12_waits_22 : decode cX12_waits 22 = .ok (.aload_n 0, 1) := by decide +kernel
theorem dX12_waits_23 : decode cX12_waits 23 = .ok (.invokevirtual 415, 3) := by decide +kernel
theorem dX12_waits_26 : decode cX12_waits 26 = .ok (.iconst 0, 1) := by decide +kernel
theorem dX12_waits_27 : decode cX12_waits 27 = .ok (.istore_n 3, 1) := by decide +kernel
theorem dX12_waits_28 : decode cX12_waits 28 = .ok (.iload_n 3, 1) := by decide +kernel
theorem dX12_waits_29 : decode cX12_waits 29 = .ok (.bipush 100, 2) := by decide +kernel
theorem dX12_waits_31 : decode cX12_waits 31 = .ok (.if_icmp .gt 34, 3) := by decide +kernel
theorem dX12_waits_34 : decode cX12_waits 34 = .ok (.iload_n 2, 1) := by decide +kernel
theorem dX12_waits_35 : decode cX12_waits 35 = .ok (.iconst (-1), 1) := by decide +kernel
theorem dX12_waits_36 : decode cX12_waits 36 = .ok (.if_icmp .ne 29, 3) := by decide +kernel
theorem dX12_waits_39 : decode cX12_waits 39 = .ok (.aload_n 0, 1) := by decide +kernel
theorem dX12_waits_40 : decode cX12_waits 40 = .ok (.iload_n 1, 1) := by decide +kernel
theorem dX12_waits_41 : decode cX12_waits 41 = .ok (.invokevirtual 329, 3) := by decide +kernel
theorem dX12_waits_44 : decode cX12_waits 44 = .ok (.ifCond .eq 7, 3) := by decide +kernel
theorem dX12_waits_47 : decode cX12_waits 47 = .ok (.iload_n 3, 1) := by decide +kernel
theorem dX12_waits_48 : decode cX12_waits 48 = .ok (.goto 4, 3) := by decide +kernel
theorem dX12_waits_51 : decode cX12_waits 51 = .ok (.iconst (-1), 1) := by decide +kernel
theorem dX12_waits_52 : decode cX12_waits 52 = .ok (.istore_n 2, 1) := by decide +kernel
theorem dX12_waits_53 : decode cX12_waits 53 = .ok (.aload_n 0, 1) := by decide +kernel
theorem dX12_waits_54 : decode cX12_waits 54 = .ok (.iconst 1, 1) := by decide +kernel
theorem dX12_waits_55 : decode cX12_waits 55 = .ok (.invokevirtual 341, 3) := by decide +kernel
theorem dX12_waits_58 : decode cX12_waits 58 = .ok (.pop, 1) := by decide +kernel
theorem dX12_waits_59 : decode cX12_waits 59 = .ok (.iinc 3 1, 3) := by decide +kernel
theorem dX12_waits_62 : decode cX12_waits 62 = .ok (.goto (-34), 3) := by decide +kernel
theorem dX12_waits_65 : decode cX12_waits 65 = .ok (.aload_n 0, 1) := by decide +kernel
theorem dX12_waits_66 : decode cX12_waits 66 = .ok (.invokevirtual 418, 3) := by decide +kernel
theorem dX12_waits_69 : decode cX12_waits 69 = .ok (.iload_n 2, 1) := by decide +kernel
theorem dX12_waits_70 : decode cX12_waits 70 = .ok (.ireturn, 1) := by decide +kernel
theorem dX12_next_0 : decode cX12_next 0 = .ok (.aload_n 0, 1) := by decide +kernel
theorem dX12_next_1 : decode cX12_next 1 = .ok (.iconst 0, 1) := by decide +kernel
theorem dX12_next_2 : decode cX12_next 2 = .ok (.putfield 3, 3) := by decide +kernel
theorem dX12_next_5 : decode cX12_next 5 = .ok (.aload_n 0, 1) := by decide +kernel
theorem dX12_next_6 : decode cX12_next 6 = .ok (.invokevirtual 421, 3) := by decide +kernel
theorem dX12_next_9 : decode cX12_next 9 = .ok (.istore_n 1, 1) := by decide +kernel
theorem dX12_next_10 : decode cX12_next 10 = .ok (.iconst (-1), 1) := by decide +kernel
theorem dX12_next_11 : decode cX12_next 11 = .ok (.istore_n 2, 1) := by decide +kernel
theorem dX12_next_12 : decode cX12_next 12 = .ok (.aload_n 0, 1) := by decide +kernel
theorem dX12_next_13 : decode cX12_next 13 = .ok (.invokevirtual 415, 3) := by decide +kernel
theorem dX12_next_16 : decode cX12_next 16 = .ok (.iconst 1, 1) := by decide +kernel
theorem dX12_next_17 : decode cX12_next 17 = .ok (.istore_n 3, 1) := by decide +kernel
theorem dX12_next_18 : decode cX12_next 18 = .ok (.iload_n 3, 1) := by decide +kernel
theorem dX12_next_19 : decode cX12_next 19 = .ok (.bipush 100, 2) := by decide +kernel
theorem dX12_next_21 : decode cX12_next 21 = .ok (.if_icmp .gt 45, 3) := by decide +kernel
theorem dX12_next_24 : decode cX12_next 24 = .ok (.iload_n 2, 1) := by decide +kernel
theorem dX12_next_25 : decode cX12_next 25 = .ok (.iconst (-1), 1) := by decide +kernel
theorem dX12_next_26 : decode cX12_next 26 = .ok (.if_icmp .ne 40, 3) := by decide +kernel
theorem dX12_next_29 : decode cX12_next 29 = .ok (.aload_n 0, 1) := by decide +kernel
theorem dX12_next_30 : decode cX12_next 30 = .ok (.iconst 1, 1) := by decide +kernel
theorem dX12_next_31 : decode cX12_next 31 = .ok (.invokevirtual 341, 3) := by decide +kernel
theorem dX12_next_34 : decode cX12_next 34 = .ok (.pop, 1) := by decide +kernel
theorem dX12_next_35 : decode cX12_next 35 = .ok (.aload_n 0, 1) := by decide +kernel
theorem dX12_next_36 : decode cX12_next 36 = .ok (.invokevirtual 421, 3) := by decide +kernel
theorem dX12_next_39 : decode cX12_next 39 = .ok (.iload_n 1, 1) := by decide +kernel
theorem dX12_next_40 : decode cX12_next 40 = .ok (.iconst (-1), 1) := by decide +kernel
theorem dX12_next_41 : decode cX12_next 41 = .ok (.ixor, 1) := by decide +kernel
theorem dX12_next_42 : decode cX12_next 42 = .ok (.iand, 1) := by decide +kernel
theorem dX12_next_43 : decode cX12_next 43 = .ok (.istore 4, 2) := by decide +kernel
theorem dX12_next_45 : decode cX12_next 45 = .ok (.iload 4, 2) := by decide +kernel
theorem dX12_next_47 : decode cX12_next 47 = .ok (.ifCond .ne 7, 3) := by decide +kernel
theorem dX12_next_50 : decode cX12_next 50 = .ok (.iconst (-1), 1) := by decide +kernel
theorem dX12_next_51 : decode cX12_next 51 = .ok (.goto 8, 3) := by decide +kernel
theorem dX12_next_54 : decode cX12_next 54 = .ok (.iload 4, 2) := by decide +kernel
theorem dX12_next_56 : decode cX12_next 56 = .ok (.invokestatic 335, 3) := by decide +kernel
theorem dX12_next_59 : decode cX12_next 59 = .ok (.istore_n 2, 1) := by decide +kernel
theorem dX12_next_60 : decode cX12_next 60 = .ok (.iinc 3 1, 3) := by decide +kernel
theorem dX12_next_63 : decode cX12_next 63 = .ok (.goto (-45), 3) := by decide +kernel
theorem dX12_next_66 : decode cX12_next 66 = .ok (.aload_n 0, 1) := by decide +kernel
theorem dX12_next_67 : decode cX12_next 67 = .ok (.invokevirtual 418, 3) := by decide +kernel
theorem dX12_next_70 : decode cX12_next 70 = .ok (.iload_n 2, 1) := by decide +kernel
theorem dX12_next_71 : decode cX12_next 71 = .ok (.ireturn, 1) := by decide +kernel
theorem dX12_keep_0 : decode cX12_keep 0 = .ok (.aload_n 0, 1) := by decide +kernel
theorem dX12_keep_1 : decode cX12_keep 1 = .ok (.iconst 0, 1) := by decide +kernel
theorem dX12_keep_2 : decode cX12_keep 2 = .ok (.putfield 3, 3) := by decide +kernel
theorem dX12_keep_5 : decode cX12_keep 5 = .ok (.aload_n 0, 1) := by decide +kernel
theorem dX12_keep_6 : decode cX12_keep 6 = .ok (.iload_n 1, 1) := by decide +kernel
theorem dX12_keep_7 : decode cX12_keep 7 = .ok (.invokestatic 424, 3) := by decide +kernel
theorem dX12_keep_10 : decode cX12_keep 10 = .ok (.iconst 1, 1) := by decide +kernel
theorem dX12_keep_11 : decode cX12_keep 11 = .ok (.invokevirtual 266, 3) := by decide +kernel
theorem dX12_keep_14 : decode cX12_keep 14 = .ok (.ifCond .eq 5, 3) := by decide +kernel
theorem dX12_keep_17 : decode cX12_keep 17 = .ok (.iconst 0, 1) := by decide +kernel
theorem dX12_keep_18 : decode cX12_keep 18 = .ok (.ireturn, 1) := by decide +kernel
theorem dX12_keep_19 : decode cX12_keep 19 = .ok (.aload_n 0, 1) := by decide +kernel
theorem dX12_keep_20 : decode cX12_keep 20 = .ok (.invokevirtual 415, 3) := by decide +kernel
theorem dX12_keep_23 : decode cX12_keep 23 = .ok (.aload_n 0, 1) := by decide +kernel
theorem dX12_keep_24 : decode cX12_keep 24 = .ok (.iload_n 1, 1) := by decide +kernel
theorem dX12_keep_25 : decode cX12_keep 25 = .ok (.iconst 1, 1) := by decide +kernel
theorem dX12_keep_26 : decode cX12_keep 26 = .ok (.invokevirtual 347, 3) := by decide +kernel
theorem dX12_keep_29 : decode cX12_keep 29 = .ok (.pop, 1) := by decide +kernel
theorem dX12_keep_30 : decode cX12_keep 30 = .ok (.aload_n 0, 1) := by decide +kernel
theorem dX12_keep_31 : decode cX12_keep 31 = .ok (.invokevirtual 83, 3) := by decide +kernel
theorem dX12_keep_34 : decode cX12_keep 34 = .ok (.aload_n 0, 1) := by decide +kernel
theorem dX12_keep_35 : decode cX12_keep 35 = .ok (.invokevirtual 421, 3) := by decide +kernel
theorem dX12_keep_38 : decode cX12_keep 38 = .ok (.invokestatic 269, 3) := by decide +kernel
theorem dX12_keep_41 : decode cX12_keep 41 = .ok (.isub, 1) := by decide +kernel
theorem dX12_keep_42 : decode cX12_keep 42 = .ok (.istore_n 2, 1) := by decide +kernel
theorem dX12_keep_43 : decode cX12_keep 43 = .ok (.aload_n 0, 1) := by decide +kernel
theorem dX12_keep_44 : decode cX12_keep 44 = .ok (.invokevirtual 418, 3) := by decide +kernel
theorem dX12_keep_47 : decode cX12_keep 47 = .ok (.iload_n 2, 1) := by decide +kernel
theorem dX12_keep_48 : decode cX12_keep 48 = .ok (.ireturn, 1) := by decide +kernel
theorem dX12_fates_0 : decode cX12_fates 0 = .ok (.aload_n 0, 1) := by decide +kernel
theorem dX12_fates_1 : decode cX12_fates 1 = .ok (.iconst 0, 1) := by decide +kernel
theorem dX12_fates_2 : decode cX12_fates 2 = .ok (.putfield 3, 3) := by decide +kernel
theorem dX12_fates_5 : decode cX12_fates 5 = .ok (.aload_n 0, 1) := by decide +kernel
theorem dX12_fates_6 : decode cX12_fates 6 = .ok (.iload_n 1, 1) := by decide +kernel
theorem dX12_fates_7 : decode cX12_fates 7 = .ok (.invokestatic 424, 3) := by decide +kernel
theorem dX12_fates_10 : decode cX12_fates 10 = .ok (.iconst 1, 1) := by decide +kernel
theorem dX12_fates_11 : decode cX12_fates 11 = .ok (.invokevirtual 266, 3) := by decide +kernel
theorem dX12_fates_14 : decode cX12_fates 14 = .ok (.ifCond .eq 5, 3) := by decide +kernel
theorem dX12_fates_17 : decode cX12_fates 17 = .ok (.iconst 0, 1) := by decide +kernel
theorem dX12_fates_18 : decode cX12_fates 18 = .ok (.ireturn, 1) := by decide +kernel
theorem dX12_fates_19 : decode cX12_fates 19 = .ok (.aload_n 0, 1) := by decide +kernel
theorem dX12_fates_20 : decode cX12_fates 20 = .ok (.invokevirtual 415, 3) := by decide +kernel
theorem dX12_fates_23 : decode cX12_fates 23 = .ok (.aload_n 0, 1) := by decide +kernel
theorem dX12_fates_24 : decode cX12_fates 24 = .ok (.iload_n 1, 1) := by decide +kernel
theorem dX12_fates_25 : decode cX12_fates 25 = .ok (.iconst 1, 1) := by decide +kernel
theorem dX12_fates_26 : decode cX12_fates 26 = .ok (.invokevirtual 347, 3) := by decide +kernel
theorem dX12_fates_29 : decode cX12_fates 29 = .ok (.pop, 1) := by decide +kernel
theorem dX12_fates_30 : decode cX12_fates 30 = .ok (.aload_n 0, 1) := by decide +kernel
theorem dX12_fates_31 : decode cX12_fates 31 = .ok (.invokevirtual 290, 3) := by decide +kernel
theorem dX12_fates_34 : decode cX12_fates 34 = .ok (.istore_n 2, 1) := by decide +kernel
theorem dX12_fates_35 : decode cX12_fates 35 = .ok (.aload_n 0, 1) := by decide +kernel
theorem dX12_fates_36 : decode cX12_fates 36 = .ok (.invokevirtual 418, 3) := by decide +kernel
theorem dX12_fates_39 : decode cX12_fates 39 = .ok (.iload_n 2, 1) := by decide +kernel
theorem dX12_fates_40 : decode cX12_fates 40 = .ok (.ireturn, 1) := by decide +kernel
theorem dX12_last_0 : decode cX12_last 0 = .ok (.aload_n 0, 1) := by decide +kernel
theorem dX12_last_1 : decode cX12_last 1 = .ok (.iconst 0, 1) := by decide +kernel
theorem dX12_last_2 : decode cX12_last 2 = .ok (.putfield 3, 3) := by decide +kernel
theorem dX12_last_5 : decode cX12_last 5 = .ok (.iconst (-1), 1) := by decide +kernel
theorem dX12_last_6 : decode cX12_last 6 = .ok (.istore_n 1, 1) := by decide +kernel
theorem dX12_last_7 : decode cX12_last 7 = .ok (.aload_n 0, 1) := by decide +kernel
theorem dX12_last_8 : decode cX12_last 8 = .ok (.invokevirtual 415, 3) := by decide +kernel
theorem dX12_last_11 : decode cX12_last 11 = .ok (.iconst 1, 1) := by decide +kernel
theorem dX12_last_12 : decode cX12_last 12 = .ok (.istore_n 2, 1) := by decide +kernel
theorem dX12_last_13 : decode cX12_last 13 = .ok (.iload_n 2, 1) := by decide +kernel
theorem dX12_last_14 : decode cX12_last 14 = .ok (.bipush 100, 2) := by decide +kernel
theorem dX12_last_16 : decode cX12_last 16 = .ok (.if_icmp .gt 23, 3) := by decide +kernel
theorem dX12_last_19 : decode cX12_last 19 = .ok (.aload_n 0, 1) := by decide +kernel
theorem dX12_last_20 : decode cX12_last 20 = .ok (.iconst 1, 1) := by decide +kernel
theorem dX12_last_21 : decode cX12_last 21 = .ok (.invokevirtual 341, 3) := by decide +kernel
theorem dX12_last_24 : decode cX12_last 24 = .ok (.ifCond .le 7, 3) := by decide +kernel
theorem dX12_last_27 : decode cX12_last 27 = .ok (.iload_n 2, 1) := by decide +kernel
theorem dX12_last_28 : decode cX12_last 28 = .ok (.goto 4, 3) := by decide +kernel
theorem dX12_last_31 : decode cX12_last 31 = .ok (.iload_n 1, 1) := by decide +kernel
theorem dX12_last_32 : decode cX12_last 32 = .ok (.istore_n 1, 1) := by decide +kernel
theorem dX12_last_33 : decode cX12_last 33 = .ok (.iinc 2 1, 3) := by decide +kernel
theorem dX12_last_36 : decode cX12_last 36 = .ok (.goto (-23), 3) := by decide +kernel
theorem dX12_last_39 : decode cX12_last 39 = .ok (.aload_n 0, 1) := by decide +kernel
theorem dX12_last_40 : decode cX12_last 40 = .ok (.invokevirtual 418, 3) := by decide +kernel
theorem dX12_last_43 : decode cX12_last 43 = .ok (.iload_n 1, 1) := by decide +kernel
theorem dX12_last_44 : decode cX12_last 44 = .ok (.ireturn, 1) := by decide +kernel
theorem dX12_ahead_0 : decode cX12_ahead 0 = .ok (.aload_n 0, 1) := by decide +kernel
theorem dX12_ahead_1 : decode cX12_ahead 1 = .ok (.iconst 0, 1) := by decide +kernel
theorem dX12_ahead_2 : decode cX12_ahead 2 = .ok (.putfield 3, 3) := by decide +kernel
theorem dX12_ahead_5 : decode cX12_ahead 5 = .ok (.aload_n 0, 1) := by decide +kernel
theorem dX12_ahead_6 : decode cX12_ahead 6 = .ok (.aload_n 0, 1) := by decide +kernel
theorem dX12_ahead_7 : decode cX12_ahead 7 = .ok (.iload_n 1, 1) := by decide +kernel
theorem dX12_ahead_8 : decode cX12_ahead 8 = .ok (.invokevirtual 299, 3) := by decide +kernel
theorem dX12_ahead_11 : decode cX12_ahead 11 = .ok (.iconst 1, 1) := by decide +kernel
theorem dX12_ahead_12 : decode cX12_ahead 12 = .ok (.invokevirtual 266, 3) := by decide +kernel
theorem dX12_ahead_15 : decode cX12_ahead 15 = .ok (.ifCond .ne 15, 3) := by decide +kernel
theorem dX12_ahead_18 : decode cX12_ahead 18 = .ok (.aload_n 0, 1) := by decide +kernel
theorem dX12_ahead_19 : decode cX12_ahead 19 = .ok (.iload_n 2, 1) := by decide +kernel
theorem dX12_ahead_20 : decode cX12_ahead 20 = .ok (.invokestatic 424, 3) := by decide +kernel
theorem dX12_ahead_23 : decode cX12_ahead 23 = .ok (.iconst 2, 1) := by decide +kernel
theorem dX12_ahead_24 : decode cX12_ahead 24 = .ok (.invokevirtual 266, 3) := by decide +kernel
theorem dX12_ahead_27 : decode cX12_ahead 27 = .ok (.ifCond .eq 5, 3) := by decide +kernel
theorem dX12_ahead_30 : decode cX12_ahead 30 = .ok (.iconst 0, 1) := by decide +kernel
theorem dX12_ahead_31 : decode cX12_ahead 31 = .ok (.ireturn, 1) := by decide +kernel
theorem dX12_ahead_32 : decode cX12_ahead 32 = .ok (.aload_n 0, 1) := by decide +kernel
theorem dX12_ahead_33 : decode cX12_ahead 33 = .ok (.invokevirtual 415, 3) := by decide +kernel
theorem dX12_ahead_36 : decode cX12_ahead 36 = .ok (.aload_n 0, 1) := by decide +kernel
theorem dX12_ahead_37 : decode cX12_ahead 37 = .ok (.iload_n 2, 1) := by decide +kernel
theorem dX12_ahead_38 : decode cX12_ahead 38 = .ok (.iconst 1, 1) := by decide +kernel
theorem dX12_ahead_39 : decode cX12_ahead 39 = .ok (.invokevirtual 347, 3) := by decide +kernel
theorem dX12_ahead_42 : decode cX12_ahead 42 = .ok (.pop, 1) := by decide +kernel
theorem dX12_ahead_43 : decode cX12_ahead 43 = .ok (.aload_n 0, 1) := by decide +kernel
theorem dX12_ahead_44 : decode cX12_ahead 44 = .ok (.iload_n 1, 1) := by decide +kernel
theorem dX12_ahead_45 : decode cX12_ahead 45 = .ok (.iconst 2, 1) := by decide +kernel
theorem dX12_ahead_46 : decode cX12_ahead 46 = .ok (.invokevirtual 77, 3) := by decide +kernel
theorem dX12_ahead_49 : decode cX12_ahead 49 = .ok (.istore_n 3, 1) := by decide +kernel
theorem dX12_ahead_50 : decode cX12_ahead 50 = .ok (.aload_n 0, 1) := by decide +kernel
theorem dX12_ahead_51 : decode cX12_ahead 51 = .ok (.invokevirtual 418, 3) := by decide +kernel
theorem dX12_ahead_54 : decode cX12_ahead 54 = .ok (.iload_n 3, 1) := by decide +kernel
theorem dX12_ahead_55 : decode cX12_ahead 55 = .ok (.ireturn, 1) := by decide +kernel
theorem dX12_givenAt_0 : decode cX12_givenAt 0 = .ok (.iload_n 0, 1) := by decide +kernel
theorem dX12_givenAt_1 : decode cX12_givenAt 1 = .ok (.bipush 8, 2) := by decide +kernel
theorem dX12_givenAt_3 : decode cX12_givenAt 3 = .ok (.ishl, 1) := by decide +kernel
theorem dX12_givenAt_4 : decode cX12_givenAt 4 = .ok (.iload_n 1, 1) := by decide +kernel
theorem dX12_givenAt_5 : decode cX12_givenAt 5 = .ok (.iadd, 1) := by decide +kernel
theorem dX12_givenAt_6 : decode cX12_givenAt 6 = .ok (.ireturn, 1) := by decide +kernel
theorem dX12_mayGive_0 : decode cX12_mayGive 0 = .ok (.aload_n 0, 1) := by decide +kernel
theorem dX12_mayGive_1 : decode cX12_mayGive 1 = .ok (.iload_n 1, 1) := by decide +kernel
theorem dX12_mayGive_2 : decode cX12_mayGive 2 = .ok (.invokevirtual 363, 3) := by decide +kernel
theorem dX12_mayGive_5 : decode cX12_mayGive 5 = .ok (.ifCond .eq 22, 3) := by decide +kernel
theorem dX12_mayGive_8 : decode cX12_mayGive 8 = .ok (.aload_n 0, 1) := by decide +kernel
theorem dX12_mayGive_9 : decode cX12_mayGive 9 = .ok (.iload_n 2, 1) := by decide +kernel
theorem dX12_mayGive_10 : decode cX12_mayGive 10 = .ok (.iconst 4, 1) := by decide +kernel
theorem dX12_mayGive_11 : decode cX12_mayGive 11 = .ok (.invokevirtual 77, 3) := by decide +kernel
theorem dX12_mayGive_14 : decode cX12_mayGive 14 = .ok (.aload_n 0, 1) := by decide +kernel
theorem dX12_mayGive_15 : decode cX12_mayGive 15 = .ok (.iload_n 1, 1) := by decide +kernel
theorem dX12_mayGive_16 : decode cX12_mayGive 16 = .ok (.iconst 5, 1) := by decide +kernel
theorem dX12_mayGive_17 : decode cX12_mayGive 17 = .ok (.invokevirtual 77, 3) := by decide +kernel
theorem dX12_mayGive_20 : decode cX12_mayGive 20 = .ok (.if_icmp .ne 7, 3) := by decide +kernel
theorem dX12_mayGive_23 : decode cX12_mayGive 23 = .ok (.iconst 1, 1) := by decide +kernel
theorem dX12_mayGive_24 : decode cX12_mayGive 24 = .ok (.goto 4, 3) := by decide +kernel
theorem dX12_mayGive_27 : decode cX12_mayGive 27 = .ok (.iconst 0, 1) := by decide +kernel
theorem dX12_mayGive_28 : decode cX12_mayGive 28 = .ok (.ireturn, 1) := by decide +kernel
theorem dX12_givenBy_0 : decode cX12_givenBy 0 = .ok (.iload_n 3, 1) := by decide +kernel
theorem dX12_givenBy_1 : decode cX12_givenBy 1 = .ok (.aload_n 0, 1) := by decide +kernel
theorem dX12_givenBy_2 : decode cX12_givenBy 2 = .ok (.invokevirtual 83, 3) := by decide +kernel
theorem dX12_givenBy_5 : decode cX12_givenBy 5 = .ok (.if_icmp .ne 16, 3) := by decide +kernel
theorem dX12_givenBy_8 : decode cX12_givenBy 8 = .ok (.aload_n 0, 1) := by decide +kernel
theorem dX12_givenBy_9 : decode cX12_givenBy 9 = .ok (.getfield 51, 3) := by decide +kernel
theorem dX12_givenBy_12 : decode cX12_givenBy 12 = .ok (.iload_n 1, 1) := by decide +kernel
theorem dX12_givenBy_13 : decode cX12_givenBy 13 = .ok (.iconst 1, 1) := by decide +kernel
theorem dX12_givenBy_14 : decode cX12_givenBy 14 = .ok (.iadd, 1) := by decide +kernel
theorem dX12_givenBy_15 : decode cX12_givenBy 15 = .ok (.iload_n 2, 1) := by decide +kernel
theorem dX12_givenBy_16 : decode cX12_givenBy 16 = .ok (.invokestatic 427, 3) := by decide +kernel
theorem dX12_givenBy_19 : decode cX12_givenBy 19 = .ok (.iaload, 1) := by decide +kernel
theorem dX12_givenBy_20 : decode cX12_givenBy 20 = .ok (.ireturn, 1) := by decide +kernel
theorem dX12_givenBy_21 : decode cX12_givenBy 21 = .ok (.iload_n 2, 1) := by decide +kernel
theorem dX12_givenBy_22 : decode cX12_givenBy 22 = .ok (.iload_n 3, 1) := by decide +kernel
theorem dX12_givenBy_23 : decode cX12_givenBy 23 = .ok (.invokestatic 323, 3) := by decide +kernel
theorem dX12_givenBy_26 : decode cX12_givenBy 26 = .ok (.ifCond .ne 12, 3) := by decide +kernel
theorem dX12_givenBy_29 : decode cX12_givenBy 29 = .ok (.aload_n 0, 1) := by decide +kernel
theorem dX12_givenBy_30 : decode cX12_givenBy 30 = .ok (.iload_n 1, 1) := by decide +kernel
theorem dX12_givenBy_31 : decode cX12_givenBy 31 = .ok (.iload_n 3, 1) := by decide +kernel
theorem dX12_givenBy_32 : decode cX12_givenBy 32 = .ok (.invokevirtual 430, 3) := by decide +kernel
theorem dX12_givenBy_35 : decode cX12_givenBy 35 = .ok (.ifCond .ne 7, 3) := by decide +kernel
theorem dX12_givenBy_38 : decode cX12_givenBy 38 = .ok (.iconst (-1), 1) := by decide +kernel
theorem dX12_givenBy_39 : decode cX12_givenBy 39 = .ok (.goto 21, 3) := by decide +kernel
theorem dX12_givenBy_42 : decode cX12_givenBy 42 = .ok (.iconst 1, 1) := by decide +kernel
theorem dX12_givenBy_43 : decode cX12_givenBy 43 = .ok (.aload_n 0, 1) := by decide +kernel
theorem dX12_givenBy_44 : decode cX12_givenBy 44 = .ok (.getfield 51, 3) := by decide +kernel
theorem dX12_givenBy_47 : decode cX12_givenBy 47 = .ok (.iload_n 1, 1) := by decide +kernel
theorem dX12_givenBy_48 : decode cX12_givenBy 48 = .ok (.iconst 1, 1) := by decide +kernel
theorem dX12_givenBy_49 : decode cX12_givenBy 49 = .ok (.iadd, 1) := by decide +kernel
theorem dX12_givenBy_50 : decode cX12_givenBy 50 = .ok (.iload_n 2, 1) := by decide +kernel
theorem dX12_givenBy_51 : decode cX12_givenBy 51 = .ok (.iconst 1, 1) := by decide +kernel
theorem dX12_givenBy_52 : decode cX12_givenBy 52 = .ok (.iload_n 3, 1) := by decide +kernel
theorem dX12_givenBy_53 : decode cX12_givenBy 53 = .ok (.ishl, 1) := by decide +kernel
theorem dX12_givenBy_54 : decode cX12_givenBy 54 = .ok (.ior, 1) := by decide +kernel
theorem dX12_givenBy_55 : decode cX12_givenBy 55 = .ok (.invokestatic 427, 3) := by decide +kernel
theorem dX12_givenBy_58 : decode cX12_givenBy 58 = .ok (.iaload, 1) := by decide +kernel
theorem dX12_givenBy_59 : decode cX12_givenBy 59 = .ok (.iadd, 1) := by decide +kernel
theorem dX12_givenBy_60 : decode cX12_givenBy 60 = .ok (.ireturn, 1) := by decide +kernel
theorem dX12_laysGiven_0 : decode cX12_laysGiven 0 = .ok (.iconst 0, 1) := by decide +kernel
theorem dX12_laysGiven_1 : decode cX12_laysGiven 1 = .ok (.istore_n 1, 1) := by decide +kernel
theorem dX12_laysGiven_2 : decode cX12_laysGiven 2 = .ok (.iload_n 1, 1) := by decide +kernel
theorem dX12_laysGiven_3 : decode cX12_laysGiven 3 = .ok (.sipush 256, 3) := by decide +kernel
theorem dX12_laysGiven_6 : decode cX12_laysGiven 6 = .ok (.if_icmp .ge 23, 3) := by decide +kernel
theorem dX12_laysGiven_9 : decode cX12_laysGiven 9 = .ok (.aload_n 0, 1) := by decide +kernel
theorem dX12_laysGiven_10 : decode cX12_laysGiven 10 = .ok (.getfield 51, 3) := by decide +kernel
theorem dX12_laysGiven_13 : decode cX12_laysGiven 13 = .ok (.aload_n 0, 1) := by decide +kernel
theorem dX12_laysGiven_14 : decode cX12_laysGiven 14 = .ok (.invokevirtual 83, 3) := by decide +kernel
theorem dX12_laysGiven_17 : decode cX12_laysGiven 17 = .ok (.iload_n 1, 1) := by decide +kernel
theorem dX12_laysGiven_18 : decode cX12_laysGiven 18 = .ok (.invokestatic 427, 3) := by decide +kernel
theorem dX12_laysGiven_21 : decode cX12_laysGiven 21 = .ok (.iconst 0, 1) := by decide +kernel
theorem dX12_laysGiven_22 : decode cX12_laysGiven 22 = .ok (.iastore, 1) := by decide +kernel
theorem dX12_laysGiven_23 : decode cX12_laysGiven 23 = .ok (.iinc 1 1, 3) := by decide +kernel
theorem dX12_laysGiven_26 : decode cX12_laysGiven 26 = .ok (.goto (-24), 3) := by decide +kernel
theorem dX12_laysGiven_29 : decode cX12_laysGiven 29 = .ok (.aload_n 0, 1) := by decide +kernel
theorem dX12_laysGiven_30 : decode cX12_laysGiven 30 = .ok (.invokevirtual 83, 3) := by decide +kernel
theorem dX12_laysGiven_33 : decode cX12_laysGiven 33 = .ok (.iconst 1, 1) := by decide +kernel
theorem dX12_laysGiven_34 : decode cX12_laysGiven 34 = .ok (.isub, 1) := by decide +kernel
theorem dX12_laysGiven_35 : decode cX12_laysGiven 35 = .ok (.istore_n 1, 1) := by decide +kernel
theorem dX12_laysGiven_36 : decode cX12_laysGiven 36 = .ok (.iload_n 1, 1) := by decide +kernel
theorem dX12_laysGiven_37 : decode cX12_laysGiven 37 = .ok (.ifCond .lt 68, 3) := by decide +kernel
theorem dX12_laysGiven_40 : decode cX12_laysGiven 40 = .ok (.iconst 0, 1) := by decide +kernel
theorem dX12_laysGiven_41 : decode cX12_laysGiven 41 = .ok (.istore_n 2, 1) := by decide +kernel
theorem dX12_laysGiven_42 : decode cX12_laysGiven 42 = .ok (.iload_n 2, 1) := by decide +kernel
theorem dX12_laysGiven_43 : decode cX12_laysGiven 43 = .ok (.sipush 256, 3) := by decide +kernel
theorem dX12_laysGiven_46 : decode cX12_laysGiven 46 = .ok (.if_icmp .ge 53, 3) := by decide +kernel
theorem dX12_laysGiven_49 : decode cX12_laysGiven 49 = .ok (.iconst 0, 1) := by decide +kernel
theorem dX12_laysGiven_50 : decode cX12_laysGiven 50 = .ok (.istore_n 3, 1) := by decide +kernel
theorem dX12_laysGiven_51 : decode cX12_laysGiven 51 = .ok (.iconst 0, 1) := by decide +kernel
theorem dX12_laysGiven_52 : decode cX12_laysGiven 52 = .ok (.istore 4, 2) := by decide +kernel
theorem dX12_laysGiven_54 : decode cX12_laysGiven 54 = .ok (.iload 4, 2) := by decide +kernel
theorem dX12_laysGiven_56 : decode cX12_laysGiven 56 = .ok (.aload_n 0, 1) := by decide +kernel
theorem dX12_laysGiven_57 : decode cX12_laysGiven 57 = .ok (.invokevirtual 83, 3) := by decide +kernel
theorem dX12_laysGiven_60 : decode cX12_laysGiven 60 = .ok (.if_icmp .gt 22, 3) := by decide +kernel
theorem dX12_laysGiven_63 : decode cX12_laysGiven 63 = .ok (.iload_n 3, 1) := by decide +kernel
theorem dX12_laysGiven_64 : decode cX12_laysGiven 64 = .ok (.aload_n 0, 1) := by decide +kernel
theorem dX12_laysGiven_65 : decode cX12_laysGiven 65 = .ok (.iload_n 1, 1) := by decide +kernel
theorem dX12_laysGiven_66 : decode cX12_laysGiven 66 = .ok (.iload_n 2, 1) := by decide +kernel
theorem dX12_laysGiven_67 : decode cX12_laysGiven 67 = .ok (.iload 4, 2) := by decide +kernel
theorem dX12_laysGiven_69 : decode cX12_laysGiven 69 = .ok (.invokevirtual 433, 3) := by decide +kernel
theorem dX12_laysGiven_72 : decode cX12_laysGiven 72 = .ok (.invokestatic 285, 3) := by decide +kernel
theorem dX12_laysGiven_75 : decode cX12_laysGiven 75 = .ok (.istore_n 3, 1) := by decide +kernel
theorem dX12_laysGiven_76 : decode cX12_laysGiven 76 = .ok (.iinc 4 1, 3) := by decide +kernel
theorem dX12_laysGiven_79 : decode cX12_laysGiven 79 = .ok (.goto (-25), 3) := by decide +kernel
theorem dX12_laysGiven_82 : decode cX12_laysGiven 82 = .ok (.aload_n 0, 1) := by decide +kernel
theorem dX12_laysGiven_83 : decode cX12_laysGiven 83 = .ok (.getfield 51, 3) := by decide +kernel
theorem dX12_laysGiven_86 : decode cX12_laysGiven 86 = .ok (.iload_n 1, 1) := by decide +kernel
theorem dX12_laysGiven_87 : decode cX12_laysGiven 87 = .ok (.iload_n 2, 1) := by decide +kernel
theorem dX12_laysGiven_88 : decode cX12_laysGiven 88 = .ok (.invokestatic 427, 3) := by decide +kernel
theorem dX12_laysGiven_91 : decode cX12_laysGiven 91 = .ok (.iload_n 3, 1) := by decide +kernel
theorem dX12_laysGiven_92 : decode cX12_laysGiven 92 = .ok (.iastore, 1) := by decide +kernel
theorem dX12_laysGiven_93 : decode cX12_laysGiven 93 = .ok (.iinc 2 1, 3) := by decide +kernel
theorem dX12_laysGiven_96 : decode cX12_laysGiven 96 = .ok (.goto (-54), 3) := by decide +kernel
theorem dX12_laysGiven_99 : decode cX12_laysGiven 99 = .ok (.iinc 1 (-1), 3) := by decide +kernel
theorem dX12_laysGiven_102 : decode cX12_laysGiven 102 = .ok (.goto (-66), 3) := by decide +kernel
theorem dX12_laysGiven_105 : decode cX12_laysGiven 105 = .ok (.return_, 1) := by decide +kernel
theorem dX12_gives_0 : decode cX12_gives 0 = .ok (.aload_n 0, 1) := by decide +kernel
theorem dX12_gives_1 : decode cX12_gives 1 = .ok (.iconst 0, 1) := by decide +kernel
theorem dX12_gives_2 : decode cX12_gives 2 = .ok (.putfield 3, 3) := by decide +kernel
theorem dX12_gives_5 : decode cX12_gives 5 = .ok (.aload_n 0, 1) := by decide +kernel
theorem dX12_gives_6 : decode cX12_gives 6 = .ok (.iload_n 1, 1) := by decide +kernel
theorem dX12_gives_7 : decode cX12_gives 7 = .ok (.iconst (-1), 1) := by decide +kernel
theorem dX12_gives_8 : decode cX12_gives 8 = .ok (.if_icmp .eq 15, 3) := by decide +kernel
theorem dX12_gives_11 : decode cX12_gives 11 = .ok (.aload_n 0, 1) := by decide +kernel
theorem dX12_gives_12 : decode cX12_gives 12 = .ok (.iload_n 1, 1) := by decide +kernel
theorem dX12_gives_13 : decode cX12_gives 13 = .ok (.invokevirtual 299, 3) := by decide +kernel
theorem dX12_gives_16 : decode cX12_gives 16 = .ok (.ifCond .eq 7, 3) := by decide +kernel
theorem dX12_gives_19 : decode cX12_gives 19 = .ok (.iconst 1, 1) := by decide +kernel
theorem dX12_gives_20 : decode cX12_gives 20 = .ok (.goto 4, 3) := by decide +kernel
theorem dX12_gives_23 : decode cX12_gives 23 = .ok (.iconst 0, 1) := by decide +kernel
theorem dX12_gives_24 : decode cX12_gives 24 = .ok (.iconst 1, 1) := by decide +kernel
theorem dX12_gives_25 : decode cX12_gives 25 = .ok (.invokevirtual 266, 3) := by decide +kernel
theorem dX12_gives_28 : decode cX12_gives 28 = .ok (.ifCond .eq 5, 3) := by decide +kernel
theorem dX12_gives_31 : decode cX12_gives 31 = .ok (.iconst 0, 1) := by decide +kernel
theorem dX12_gives_32 : decode cX12_gives 32 = .ok (.ireturn, 1) := by decide +kernel
theorem dX12_gives_33 : decode cX12_gives 33 = .ok (.aload_n 0, 1) := by decide +kernel
theorem dX12_gives_34 : decode cX12_gives 34 = .ok (.invokevirtual 436, 3) := by decide +kernel
theorem dX12_gives_37 : decode cX12_gives 37 = .ok (.iload_n 1, 1) := by decide +kernel
theorem dX12_gives_38 : decode cX12_gives 38 = .ok (.iconst (-1), 1) := by decide +kernel
theorem dX12_gives_39 : decode cX12_gives 39 = .ok (.if_icmp .ne 14, 3) := by decide +kernel
theorem dX12_gives_42 : decode cX12_gives 42 = .ok (.aload_n 0, 1) := by decide +kernel
theorem dX12_gives_43 : decode cX12_gives 43 = .ok (.getfield 51, 3) := by decide +kernel
theorem dX12_gives_46 : decode cX12_gives 46 = .ok (.iconst 0, 1) := by decide +kernel
theorem dX12_gives_47 : decode cX12_gives 47 = .ok (.iconst 0, 1) := by decide +kernel
theorem dX12_gives_48 : decode cX12_gives 48 = .ok (.invokestatic 427, 3) := by decide +kernel
theorem dX12_gives_51 : decode cX12_gives 51 = .ok (.iaload, 1) := by decide +kernel
theorem dX12_gives_52 : decode cX12_gives 52 = .ok (.ireturn, 1) := by decide +kernel
theorem dX12_gives_53 : decode cX12_gives 53 = .ok (.iconst 0, 1) := by decide +kernel
theorem dX12_gives_54 : decode cX12_gives 54 = .ok (.istore_n 2, 1) := by decide +kernel
theorem dX12_gives_55 : decode cX12_gives 55 = .ok (.iconst 0, 1) := by decide +kernel
theorem dX12_gives_56 : decode cX12_gives 56 = .ok (.istore_n 3, 1) := by decide +kernel
theorem dX12_gives_57 : decode cX12_gives 57 = .ok (.iconst 0, 1) := by decide +kernel
theorem dX12_gives_58 : decode cX12_gives 58 = .ok (.istore 4, 2) := by decide +kernel
theorem dX12_gives_60 : decode cX12_gives 60 = .ok (.iload 4, 2) := by decide +kernel
theorem dX12_gives_62 : decode cX12_gives 62 = .ok (.iload_n 1, 1) := by decide +kernel
theorem dX12_gives_63 : decode cX12_gives 63 = .ok (.if_icmp .gt 78, 3) := by decide +kernel
theorem dX12_gives_66 : decode cX12_gives 66 = .ok (.aload_n 0, 1) := by decide +kernel
theorem dX12_gives_67 : decode cX12_gives 67 = .ok (.getfield 51, 3) := by decide +kernel
theorem dX12_gives_70 : decode cX12_gives 70 = .ok (.iload 4, 2) := by decide +kernel
theorem dX12_gives_72 : decode cX12_gives 72 = .ok (.iload_n 2, 1) := by decide +kernel
theorem dX12_gives_73 : decode cX12_gives 73 = .ok (.invokestatic 427, 3) := by decide +kernel
theorem dX12_gives_76 : decode cX12_gives 76 = .ok (.iaload, 1) := by decide +kernel
theorem dX12_gives_77 : decode cX12_gives 77 = .ok (.istore 5, 2) := by decide +kernel
theorem dX12_gives_79 : decode cX12_gives 79 = .ok (.iload 4, 2) := by decide +kernel
theorem dX12_gives_81 : decode cX12_gives 81 = .ok (.istore_n 3, 1) := by decide +kernel
theorem dX12_gives_82 : decode cX12_gives 82 = .ok (.aload_n 0, 1) := by decide +kernel
theorem dX12_gives_83 : decode cX12_gives 83 = .ok (.iload 4, 2) := by decide +kernel
theorem dX12_gives_85 : decode cX12_gives 85 = .ok (.iload_n 2, 1) := by decide +kernel
theorem dX12_gives_86 : decode cX12_gives 86 = .ok (.iload 4, 2) := by decide +kernel
theorem dX12_gives_88 : decode cX12_gives 88 = .ok (.invokevirtual 433, 3) := by decide +kernel
theorem dX12_gives_91 : decode cX12_gives 91 = .ok (.iload 5, 2) := by decide +kernel
theorem dX12_gives_93 : decode cX12_gives 93 = .ok (.if_icmp .eq 24, 3) := by decide +kernel
theorem dX12_gives_96 : decode cX12_gives 96 = .ok (.iconst 0, 1) := by decide +kernel
theorem dX12_gives_97 : decode cX12_gives 97 = .ok (.istore_n 3, 1) := by decide +kernel
theorem dX12_gives_98 : decode cX12_gives 98 = .ok (.aload_n 0, 1) := by decide +kernel
theorem dX12_gives_99 : decode cX12_gives 99 = .ok (.iload 4, 2) := by decide +kernel
theorem dX12_gives_101 : decode cX12_gives 101 = .ok (.iload_n 2, 1) := by decide +kernel
theorem dX12_gives_102 : decode cX12_gives 102 = .ok (.iload_n 3, 1) := by decide +kernel
theorem dX12_gives_103 : decode cX12_gives 103 = .ok (.invokevirtual 433, 3) := by decide +kernel
theorem dX12_gives_106 : decode cX12_gives 106 = .ok (.iload 5, 2) := by decide +kernel
theorem dX12_gives_108 : decode cX12_gives 108 = .ok (.if_icmp .eq 9, 3) := by decide +kernel
theorem dX12_gives_111 : decode cX12_gives 111 = .ok (.iinc 3 1, 3) := by decide +kernel
theorem dX12_gives_114 : decode cX12_gives 114 = .ok (.goto (-16), 3) := by decide +kernel
theorem dX12_gives_117 : decode cX12_gives 117 = .ok (.iload_n 2, 1) := by decide +kernel
theorem dX12_gives_118 : decode cX12_gives 118 = .ok (.iload_n 3, 1) := by decide +kernel
theorem dX12_gives_119 : decode cX12_gives 119 = .ok (.aload_n 0, 1) := by decide +kernel
theorem dX12_gives_120 : decode cX12_gives 120 = .ok (.invokevirtual 83, 3) := by decide +kernel
theorem dX12_gives_123 : decode cX12_gives 123 = .ok (.if_icmp .ge 9, 3) := by decide +kernel
theorem dX12_gives_126 : decode cX12_gives 126 = .ok (.iconst 1, 1) := by decide +kernel
theorem dX12_gives_127 : decode cX12_gives 127 = .ok (.iload_n 3, 1) := by decide +kernel
theorem dX12_gives_128 : decode cX12_gives 128 = .ok (.ishl, 1) := by decide +kernel
theorem dX12_gives_129 : decode cX12_gives 129 = .ok (.goto 4, 3) := by decide +kernel
theorem dX12_gives_132 : decode cX12_gives 132 = .ok (.iconst 0, 1) := by decide +kernel
theorem dX12_gives_133 : decode cX12_gives 133 = .ok (.ior, 1) := by decide +kernel
theorem dX12_gives_134 : decode cX12_gives 134 = .ok (.istore_n 2, 1) := by decide +kernel
theorem dX12_gives_135 : decode cX12_gives 135 = .ok (.iinc 4 1, 3) := by decide +kernel
theorem dX12_gives_138 : decode cX12_gives 138 = .ok (.goto (-78), 3) := by decide +kernel
theorem dX12_gives_141 : decode cX12_gives 141 = .ok (.iload_n 3, 1) := by decide +kernel
theorem dX12_gives_142 : decode cX12_gives 142 = .ok (.aload_n 0, 1) := by decide +kernel
theorem dX12_gives_143 : decode cX12_gives 143 = .ok (.invokevirtual 83, 3) := by decide +kernel
theorem dX12_gives_146 : decode cX12_gives 146 = .ok (.if_icmp .ne 7, 3) := by decide +kernel
theorem dX12_gives_149 : decode cX12_gives 149 = .ok (.iconst (-1), 1) := by decide +kernel
theorem dX12_gives_150 : decode cX12_gives 150 = .ok (.goto 4, 3) := by decide +kernel
theorem dX12_gives_153 : decode cX12_gives 153 = .ok (.iload_n 3, 1) := by decide +kernel
theorem dX12_gives_154 : decode cX12_gives 154 = .ok (.ireturn, 1) := by decide +kernel
theorem dX12_gladOf_0 : decode cX12_gladOf 0 = .ok (.aload_n 0, 1) := by decide +kernel
theorem dX12_gladOf_1 : decode cX12_gladOf 1 = .ok (.iload_n 2, 1) := by decide +kernel
theorem dX12_gladOf_2 : decode cX12_gladOf 2 = .ok (.iconst 5, 1) := by decide +kernel
theorem dX12_gladOf_3 : decode cX12_gladOf 3 = .ok (.invokevirtual 77, 3) := by decide +kernel
theorem dX12_gladOf_6 : decode cX12_gladOf 6 = .ok (.aload_n 0, 1) := by decide +kernel
theorem dX12_gladOf_7 : decode cX12_gladOf 7 = .ok (.iload_n 1, 1) := by decide +kernel
theorem dX12_gladOf_8 : decode cX12_gladOf 8 = .ok (.iconst 4, 1) := by decide +kernel
theorem dX12_gladOf_9 : decode cX12_gladOf 9 = .ok (.invokevirtual 77, 3) := by decide +kernel
theorem dX12_gladOf_12 : decode cX12_gladOf 12 = .ok (.if_icmp .ne 9, 3) := by decide +kernel
theorem dX12_gladOf_15 : decode cX12_gladOf 15 = .ok (.sipush 999, 3) := by decide +kernel
theorem dX12_gladOf_18 : decode cX12_gladOf 18 = .ok (.goto 14, 3) := by decide +kernel
theorem dX12_gladOf_21 : decode cX12_gladOf 21 = .ok (.aload_n 0, 1) := by decide +kernel
theorem dX12_gladOf_22 : decode cX12_gladOf 22 = .ok (.aload_n 0, 1) := by decide +kernel
theorem dX12_gladOf_23 : decode cX12_gladOf 23 = .ok (.iload_n 2, 1) := by decide +kernel
theorem dX12_gladOf_24 : decode cX12_gladOf 24 = .ok (.iconst 5, 1) := by decide +kernel
theorem dX12_gladOf_25 : decode cX12_gladOf 25 = .ok (.invokevirtual 77, 3) := by decide +kernel
theorem dX12_gladOf_28 : decode cX12_gladOf 28 = .ok (.iconst 3, 1) := by decide +kernel
theorem dX12_gladOf_29 : decode cX12_gladOf 29 = .ok (.invokevirtual 80, 3) := by decide +kernel
theorem dX12_gladOf_32 : decode cX12_gladOf 32 = .ok (.ireturn, 1) := by decide +kernel
theorem dX12_pointOf_0 : decode cX12_pointOf 0 = .ok (.iload_n 1, 1) := by decide +kernel
theorem dX12_pointOf_1 : decode cX12_pointOf 1 = .ok (.istore_n 3, 1) := by decide +kernel
theorem dX12_pointOf_2 : decode cX12_pointOf 2 = .ok (.iconst 0, 1) := by decide +kernel
theorem dX12_pointOf_3 : decode cX12_pointOf 3 = .ok (.istore 4, 2) := by decide +kernel
theorem dX12_pointOf_5 : decode cX12_pointOf 5 = .ok (.iload 4, 2) := by decide +kernel
theorem dX12_pointOf_7 : decode cX12_pointOf 7 = .ok (.aload_n 0, 1) := by decide +kernel
theorem dX12_pointOf_8 : decode cX12_pointOf 8 = .ok (.invokevirtual 83, 3) := by decide +kernel
theorem dX12_pointOf_11 : decode cX12_pointOf 11 = .ok (.if_icmp .ge 37, 3) := by decide +kernel
theorem dX12_pointOf_14 : decode cX12_pointOf 14 = .ok (.iload_n 2, 1) := by decide +kernel
theorem dX12_pointOf_15 : decode cX12_pointOf 15 = .ok (.iload 4, 2) := by decide +kernel
theorem dX12_pointOf_17 : decode cX12_pointOf 17 = .ok (.invokestatic 323, 3) := by decide +kernel
theorem dX12_pointOf_20 : decode cX12_pointOf 20 = .ok (.ifCond .eq 22, 3) := by decide +kernel
theorem dX12_pointOf_23 : decode cX12_pointOf 23 = .ok (.aload_n 0, 1) := by decide +kernel
theorem dX12_pointOf_24 : decode cX12_pointOf 24 = .ok (.iload_n 1, 1) := by decide +kernel
theorem dX12_pointOf_25 : decode cX12_pointOf 25 = .ok (.iload 4, 2) := by decide +kernel
theorem dX12_pointOf_27 : decode cX12_pointOf 27 = .ok (.invokevirtual 439, 3) := by decide +kernel
theorem dX12_pointOf_30 : decode cX12_pointOf 30 = .ok (.aload_n 0, 1) := by decide +kernel
theorem dX12_pointOf_31 : decode cX12_pointOf 31 = .ok (.iload_n 1, 1) := by decide +kernel
theorem dX12_pointOf_32 : decode cX12_pointOf 32 = .ok (.iload_n 3, 1) := by decide +kernel
theorem dX12_pointOf_33 : decode cX12_pointOf 33 = .ok (.invokevirtual 439, 3) := by decide +kernel
theorem dX12_pointOf_36 : decode cX12_pointOf 36 = .ok (.if_icmp .le 6, 3) := by decide +kernel
theorem dX12_pointOf_39 : decode cX12_pointOf 39 = .ok (.iload 4, 2) := by decide +kernel
theorem dX12_pointOf_41 : decode cX12_pointOf 41 = .ok (.istore_n 3, 1) := by decide +kernel
theorem dX12_pointOf_42 : decode cX12_pointOf 42 = .ok (.iinc 4 1, 3) := by decide +kernel
theorem dX12_pointOf_45 : decode cX12_pointOf 45 = .ok (.goto (-40), 3) := by decide +kernel
theorem dX12_pointOf_48 : decode cX12_pointOf 48 = .ok (.iload_n 3, 1) := by decide +kernel
theorem dX12_pointOf_49 : decode cX12_pointOf 49 = .ok (.ireturn, 1) := by decide +kernel
theorem dX12_ringFrom_0 : decode cX12_ringFrom 0 = .ok (.iload_n 1, 1) := by decide +kernel
theorem dX12_ringFrom_1 : decode cX12_ringFrom 1 = .ok (.istore_n 3, 1) := by decide +kernel
theorem dX12_ringFrom_2 : decode cX12_ringFrom 2 = .ok (.iconst 0, 1) := by decide +kernel
theorem dX12_ringFrom_3 : decode cX12_ringFrom 3 = .ok (.istore 4, 2) := by decide +kernel
theorem dX12_ringFrom_5 : decode cX12_ringFrom 5 = .ok (.iload 4, 2) := by decide +kernel
theorem dX12_ringFrom_7 : decode cX12_ringFrom 7 = .ok (.bipush 8, 2) := by decide +kernel
theorem dX12_ringFrom_9 : decode cX12_ringFrom 9 = .ok (.if_icmp .ge 16, 3) := by decide +kernel
theorem dX12_ringFrom_12 : decode cX12_ringFrom 12 = .ok (.aload_n 0, 1) := by decide +kernel
theorem dX12_ringFrom_13 : decode cX12_ringFrom 13 = .ok (.iload_n 3, 1) := by decide +kernel
theorem dX12_ringFrom_14 : decode cX12_ringFrom 14 = .ok (.iload_n 2, 1) := by decide +kernel
theorem dX12_ringFrom_15 : decode cX12_ringFrom 15 = .ok (.invokevirtual 442, 3) := by decide +kernel
theorem dX12_ringFrom_18 : decode cX12_ringFrom 18 = .ok (.istore_n 3, 1) := by decide +kernel
theorem dX12_ringFrom_19 : decode cX12_ringFrom 19 = .ok (.iinc 4 1, 3) := by decide +kernel
theorem dX12_ringFrom_22 : decode cX12_ringFrom 22 = .ok (.goto (-17), 3) := by decide +kernel
theorem dX12_ringFrom_25 : decode cX12_ringFrom 25 = .ok (.iconst 0, 1) := by decide +kernel
theorem dX12_ringFrom_26 : decode cX12_ringFrom 26 = .ok (.istore 4, 2) := by decide +kernel
theorem dX12_ringFrom_28 : decode cX12_ringFrom 28 = .ok (.iload 4, 2) := by decide +kernel
theorem dX12_ringFrom_30 : decode cX12_ringFrom 30 = .ok (.iload_n 3, 1) := by decide +kernel
theorem dX12_ringFrom_31 : decode cX12_ringFrom 31 = .ok (.invokestatic 323, 3) := by decide +kernel
theorem dX12_ringFrom_34 : decode cX12_ringFrom 34 = .ok (.ifCond .ne 21, 3) := by decide +kernel
theorem dX12_ringFrom_37 : decode cX12_ringFrom 37 = .ok (.iload 4, 2) := by decide +kernel
theorem dX12_ringFrom_39 : decode cX12_ringFrom 39 = .ok (.iconst 1, 1) := by decide +kernel
theorem dX12_ringFrom_40 : decode cX12_ringFrom 40 = .ok (.iload_n 3, 1) := by decide +kernel
theorem dX12_ringFrom_41 : decode cX12_ringFrom 41 = .ok (.ishl, 1) := by decide +kernel
theorem dX12_ringFrom_42 : decode cX12_ringFrom 42 = .ok (.ior, 1) := by decide +kernel
theorem dX12_ringFrom_43 : decode cX12_ringFrom 43 = .ok (.istore 4, 2) := by decide +kernel
theorem dX12_ringFrom_45 : decode cX12_ringFrom 45 = .ok (.aload_n 0, 1) := by decide +kernel
theorem dX12_ringFrom_46 : decode cX12_ringFrom 46 = .ok (.iload_n 3, 1) := by decide +kernel
theorem dX12_ringFrom_47 : decode cX12_ringFrom 47 = .ok (.iload_n 2, 1) := by decide +kernel
theorem dX12_ringFrom_48 : decode cX12_ringFrom 48 = .ok (.invokevirtual 442, 3) := by decide +kernel
theorem dX12_ringFrom_51 : decode cX12_ringFrom 51 = .ok (.istore_n 3, 1) := by decide +kernel
theorem dX12_ringFrom_52 : decode cX12_ringFrom 52 = .ok (.goto (-24), 3) := by decide +kernel
theorem dX12_ringFrom_55 : decode cX12_ringFrom 55 = .ok (.iload 4, 2) := by decide +kernel
theorem dX12_ringFrom_57 : decode cX12_ringFrom 57 = .ok (.ireturn, 1) := by decide +kernel
theorem dX12_trades_0 : decode cX12_trades 0 = .ok (.iconst 0, 1) := by decide +kernel
theorem dX12_trades_1 : decode cX12_trades 1 = .ok (.istore_n 1, 1) := by decide +kernel
theorem dX12_trades_2 : decode cX12_trades 2 = .ok (.iconst 0, 1) := by decide +kernel
theorem dX12_trades_3 : decode cX12_trades 3 = .ok (.istore_n 2, 1) := by decide +kernel
theorem dX12_trades_4 : decode cX12_trades 4 = .ok (.iload_n 2, 1) := by decide +kernel
theorem dX12_trades_5 : decode cX12_trades 5 = .ok (.bipush 8, 2) := by decide +kernel
theorem dX12_trades_7 : decode cX12_trades 7 = .ok (.if_icmp .ge 49, 3) := by decide +kernel
theorem dX12_trades_10 : decode cX12_trades 10 = .ok (.aload_n 0, 1) := by decide +kernel
theorem dX12_trades_11 : decode cX12_trades 11 = .ok (.getfield 54, 3) := by decide +kernel
theorem dX12_trades_14 : decode cX12_trades 14 = .ok (.iload_n 2, 1) := by decide +kernel
theorem dX12_trades_15 : decode cX12_trades 15 = .ok (.iconst (-1), 1) := by decide +kernel
theorem dX12_trades_16 : decode cX12_trades 16 = .ok (.iastore, 1) := by decide +kernel
theorem dX12_trades_17 : decode cX12_trades 17 = .ok (.aload_n 0, 1) := by decide +kernel
theorem dX12_trades_18 : decode cX12_trades 18 = .ok (.getfield 57, 3) := by decide +kernel
theorem dX12_trades_21 : decode cX12_trades 21 = .ok (.iload_n 2, 1) := by decide +kernel
theorem dX12_trades_22 : decode cX12_trades 22 = .ok (.iconst 0, 1) := by decide +kernel
theorem dX12_trades_23 : decode cX12_trades 23 = .ok (.iastore, 1) := by decide +kernel
theorem dX12_trades_24 : decode cX12_trades 24 = .ok (.iload_n 1, 1) := by decide +kernel
theorem dX12_trades_25 : decode cX12_trades 25 = .ok (.iload_n 2, 1) := by decide +kernel
theorem dX12_trades_26 : decode cX12_trades 26 = .ok (.aload_n 0, 1) := by decide +kernel
theorem dX12_trades_27 : decode cX12_trades 27 = .ok (.invokevirtual 83, 3) := by decide +kernel
theorem dX12_trades_30 : decode cX12_trades 30 = .ok (.if_icmp .ge 17, 3) := by decide +kernel
theorem dX12_trades_33 : decode cX12_trades 33 = .ok (.aload_n 0, 1) := by decide +kernel
theorem dX12_trades_34 : decode cX12_trades 34 = .ok (.iload_n 2, 1) := by decide +kernel
theorem dX12_trades_35 : decode cX12_trades 35 = .ok (.invokevirtual 363, 3) := by decide +kernel
theorem dX12_trades_38 : decode cX12_trades 38 = .ok (.ifCond .eq 9, 3) := by decide +kernel
theorem dX12_trades_41 : decode cX12_trades 41 = .ok (.iconst 1, 1) := by decide +kernel
theorem dX12_trades_42 : decode cX12_trades 42 = .ok (.iload_n 2, 1) := by decide +kernel
theorem dX12_trades_43 : decode cX12_trades 43 = .ok (.ishl, 1) := by decide +kernel
theorem dX12_trades_44 : decode cX12_trades 44 = .ok (.goto 4, 3) := by decide +kernel
theorem dX12_trades_47 : decode cX12_trades 47 = .ok (.iconst 0, 1) := by decide +kernel
theorem dX12_trades_48 : decode cX12_trades 48 = .ok (.ior, 1) := by decide +kernel
theorem dX12_trades_49 : decode cX12_trades 49 = .ok (.istore_n 1, 1) := by decide +kernel
theorem dX12_trades_50 : decode cX12_trades 50 = .ok (.iinc 2 1, 3) := by decide +kernel
theorem dX12_trades_53 : decode cX12_trades 53 = .ok (.goto (-49), 3) := by decide +kernel
theorem dX12_trades_56 : decode cX12_trades 56 = .ok (.iload_n 1, 1) := by decide +kernel
theorem dX12_trades_57 : decode cX12_trades 57 = .ok (.ifCond .eq 71, 3) := by decide +kernel
theorem dX12_trades_60 : decode cX12_trades 60 = .ok (.aload_n 0, 1) := by decide +kernel
theorem dX12_trades_61 : decode cX12_trades 61 = .ok (.iload_n 1, 1) := by decide +kernel
theorem dX12_trades_62 : decode cX12_trades 62 = .ok (.invokestatic 335, 3) := by decide +kernel
theorem dX12_trades_65 : decode cX12_trades 65 = .ok (.iload_n 1, 1) := by decide +kernel
theorem dX12_trades_66 : decode cX12_trades 66 = .ok (.invokevirtual 445, 3) := by decide +kernel
theorem dX12_trades_69 : decode cX12_trades 69 = .ok (.istore_n 2, 1) := by decide +kernel
theorem dX12_trades_70 : decode cX12_trades 70 = .ok (.iconst 0, 1) := by decide +kernel
theorem dX12_trades_71 : decode cX12_trades 71 = .ok (.istore_n 3, 1) := by decide +kernel
theorem dX12_trades_72 : decode cX12_trades 72 = .ok (.iload_n 3, 1) := by decide +kernel
theorem dX12_trades_73 : decode cX12_trades 73 = .ok (.aload_n 0, 1) := by decide +kernel
theorem dX12_trades_74 : decode cX12_trades 74 = .ok (.invokevirtual 83, 3) := by decide +kernel
theorem dX12_trades_77 : decode cX12_trades 77 = .ok (.if_icmp .ge 42, 3) := by decide +kernel
theorem dX12_trades_80 : decode cX12_trades 80 = .ok (.iload_n 2, 1) := by decide +kernel
theorem dX12_trades_81 : decode cX12_trades 81 = .ok (.iload_n 3, 1) := by decide +kernel
theorem dX12_trades_82 : decode cX12_trades 82 = .ok (.invokestatic 323, 3) := by decide +kernel
theorem dX12_trades_85 : decode cX12_trades 85 = .ok (.ifCond .ne 6, 3) := by decide +kernel
theorem dX12_trades_88 : decode cX12_trades 88 = .ok (.goto 25, 3) := by decide +kernel
theorem dX12_trades_91 : decode cX12_trades 91 = .ok (.aload_n 0, 1) := by decide +kernel
theorem dX12_trades_92 : decode cX12_trades 92 = .ok (.getfield 54, 3) := by decide +kernel
theorem dX12_trades_95 : decode cX12_trades 95 = .ok (.iload_n 3, 1) := by decide +kernel
theorem dX12_trades_96 : decode cX12_trades 96 = .ok (.aload_n 0, 1) := by decide +kernel
theorem dX12_trades_97 : decode cX12_trades 97 = .ok (.iload_n 3, 1) := by decide +kernel
theorem dX12_trades_98 : decode cX12_trades 98 = .ok (.iload_n 1, 1) := by decide +kernel
theorem dX12_trades_99 : decode cX12_trades 99 = .ok (.invokevirtual 442, 3) := by decide +kernel
theorem dX12_trades_102 : decode cX12_trades 102 = .ok (.iastore, 1) := by decide +kernel
theorem dX12_trades_103 : decode cX12_trades 103 = .ok (.aload_n 0, 1) := by decide +kernel
theorem dX12_trades_104 : decode cX12_trades 104 = .ok (.getfield 57, 3) := by decide +kernel
theorem dX12_trades_107 : decode cX12_trades 107 = .ok (.iload_n 3, 1) := by decide +kernel
theorem dX12_trades_108 : decode cX12_trades 108 = .ok (.iload_n 2, 1) := by decide +kernel
theorem dX12_trades_109 : decode cX12_trades 109 = .ok (.invokestatic 269, 3) := by decide +kernel
theorem dX12_trades_112 : decode cX12_trades 112 = .ok (.iastore, 1) := by decide +kernel
theorem dX12_trades_113 : decode cX12_trades 113 = .ok (.iinc 3 1, 3) := by decide +kernel
theorem dX12_trades_116 : decode cX12_trades 116 = .ok (.goto (-44), 3) := by decide +kernel
theorem dX12_trades_119 : decode cX12_trades 119 = .ok (.iload_n 1, 1) := by decide +kernel
theorem dX12_trades_120 : decode cX12_trades 120 = .ok (.iload_n 2, 1) := by decide +kernel
theorem dX12_trades_121 : decode cX12_trades 121 = .ok (.iconst (-1), 1) := by decide +kernel
theorem dX12_trades_122 : decode cX12_trades 122 = .ok (.ixor, 1) := by decide +kernel
theorem dX12_trades_123 : decode cX12_trades 123 = .ok (.iand, 1) := by decide +kernel
theorem dX12_trades_124 : decode cX12_trades 124 = .ok (.istore_n 1, 1) := by decide +kernel
theorem dX12_trades_125 : decode cX12_trades 125 = .ok (.goto (-69), 3) := by decide +kernel
theorem dX12_trades_128 : decode cX12_trades 128 = .ok (.return_, 1) := by decide +kernel
theorem dX12_trade_0 : decode cX12_trade 0 = .ok (.aload_n 0, 1) := by decide +kernel
theorem dX12_trade_1 : decode cX12_trade 1 = .ok (.iconst 0, 1) := by decide +kernel
theorem dX12_trade_2 : decode cX12_trade 2 = .ok (.putfield 3, 3) := by decide +kernel
theorem dX12_trade_5 : decode cX12_trade 5 = .ok (.aload_n 0, 1) := by decide +kernel
theorem dX12_trade_6 : decode cX12_trade 6 = .ok (.aload_n 0, 1) := by decide +kernel
theorem dX12_trade_7 : decode cX12_trade 7 = .ok (.iload_n 1, 1) := by decide +kernel
theorem dX12_trade_8 : decode cX12_trade 8 = .ok (.invokevirtual 299, 3) := by decide +kernel
theorem dX12_trade_11 : decode cX12_trade 11 = .ok (.iconst 1, 1) := by decide +kernel
theorem dX12_trade_12 : decode cX12_trade 12 = .ok (.invokevirtual 266, 3) := by decide +kernel
theorem dX12_trade_15 : decode cX12_trade 15 = .ok (.ifCond .eq 5, 3) := by decide +kernel
theorem dX12_trade_18 : decode cX12_trade 18 = .ok (.iconst 0, 1) := by decide +kernel
theorem dX12_trade_19 : decode cX12_trade 19 = .ok (.ireturn, 1) := by decide +kernel
theorem dX12_trade_20 : decode cX12_trade 20 = .ok (.aload_n 0, 1) := by decide +kernel
theorem dX12_trade_21 : decode cX12_trade 21 = .ok (.invokevirtual 448, 3) := by decide +kernel
theorem dX12_trade_24 : decode cX12_trade 24 = .ok (.aload_n 0, 1) := by decide +kernel
theorem dX12_trade_25 : decode cX12_trade 25 = .ok (.getfield 54, 3) := by decide +kernel
theorem dX12_trade_28 : decode cX12_trade 28 = .ok (.iload_n 1, 1) := by decide +kernel
theorem dX12_trade_29 : decode cX12_trade 29 = .ok (.iaload, 1) := by decide +kernel
theorem dX12_trade_30 : decode cX12_trade 30 = .ok (.ireturn, 1) := by decide +kernel
theorem dX12_ring_0 : decode cX12_ring 0 = .ok (.aload_n 0, 1) := by decide +kernel
theorem dX12_ring_1 : decode cX12_ring 1 = .ok (.iconst 0, 1) := by decide +kernel
theorem dX12_ring_2 : decode cX12_ring 2 = .ok (.putfield 3, 3) := by decide +kernel
theorem dX12_ring_5 : decode cX12_ring 5 = .ok (.aload_n 0, 1) := by decide +kernel
theorem dX12_ring_6 : decode cX12_ring 6 = .ok (.aload_n 0, 1) := by decide +kernel
theorem dX12_ring_7 : decode cX12_ring 7 = .ok (.iload_n 1, 1) := by decide +kernel
theorem dX12_ring_8 : decode cX12_ring 8 = .ok (.invokevirtual 299, 3) := by decide +kernel
theorem dX12_ring_11 : decode cX12_ring 11 = .ok (.iconst 1, 1) := by decide +kernel
theorem dX12_ring_12 : decode cX12_ring 12 = .ok (.invokevirtual 266, 3) := by decide +kernel
theorem dX12_ring_15 : decode cX12_ring 15 = .ok (.ifCond .eq 5, 3) := by decide +kernel
theorem dX12_ring_18 : decode cX12_ring 18 = .ok (.iconst 0, 1) := by decide +kernel
theorem dX12_ring_19 : decode cX12_ring 19 = .ok (.ireturn, 1) := by decide +kernel
theorem dX12_ring_20 : decode cX12_ring 20 = .ok (.aload_n 0, 1) := by decide +kernel
theorem dX12_ring_21 : decode cX12_ring 21 = .ok (.invokevirtual 448, 3) := by decide +kernel
theorem dX12_ring_24 : decode cX12_ring 24 = .ok (.aload_n 0, 1) := by decide +kernel
theorem dX12_ring_25 : decode cX12_ring 25 = .ok (.getfield 57, 3) := by decide +kernel
theorem dX12_ring_28 : decode cX12_ring 28 = .ok (.iload_n 1, 1) := by decide +kernel
theorem dX12_ring_29 : decode cX12_ring 29 = .ok (.iaload, 1) := by decide +kernel
theorem dX12_ring_30 : decode cX12_ring 30 = .ok (.ireturn, 1) := by decide +kernel
theorem dX12_swap_0 : decode cX12_swap 0 = .ok (.aload_n 0, 1) := by decide +kernel
theorem dX12_swap_1 : decode cX12_swap 1 = .ok (.iload_n 1, 1) := by decide +kernel
theorem dX12_swap_2 : decode cX12_swap 2 = .ok (.iload_n 2, 1) := by decide +kernel
theorem dX12_swap_3 : decode cX12_swap 3 = .ok (.invokevirtual 369, 3) := by decide +kernel
theorem dX12_swap_6 : decode cX12_swap 6 = .ok (.ifCond .eq 5, 3) := by decide +kernel
theorem dX12_swap_9 : decode cX12_swap 9 = .ok (.iconst 0, 1) := by decide +kernel
theorem dX12_swap_10 : decode cX12_swap 10 = .ok (.ireturn, 1) := by decide +kernel
theorem dX12_swap_11 : decode cX12_swap 11 = .ok (.aload_n 0, 1) := by decide +kernel
theorem dX12_swap_12 : decode cX12_swap 12 = .ok (.iload_n 1, 1) := by decide +kernel
theorem dX12_swap_13 : decode cX12_swap 13 = .ok (.invokevirtual 363, 3) := by decide +kernel
theorem dX12_swap_16 : decode cX12_swap 16 = .ok (.ifCond .eq 45, 3) := by decide +kernel
theorem dX12_swap_19 : decode cX12_swap 19 = .ok (.aload_n 0, 1) := by decide +kernel
theorem dX12_swap_20 : decode cX12_swap 20 = .ok (.iload_n 2, 1) := by decide +kernel
theorem dX12_swap_21 : decode cX12_swap 21 = .ok (.invokevirtual 363, 3) := by decide +kernel
theorem dX12_swap_24 : decode cX12_swap 24 = .ok (.ifCond .eq 37, 3) := by decide +kernel
theorem dX12_swap_27 : decode cX12_swap 27 = .ok (.aload_n 0, 1) := by decide +kernel
theorem dX12_swap_28 : decode cX12_swap 28 = .ok (.iload_n 1, 1) := by decide +kernel
theorem dX12_swap_29 : decode cX12_swap 29 = .ok (.iload_n 2, 1) := by decide +kernel
theorem dX12_swap_30 : decode cX12_swap 30 = .ok (.invokevirtual 439, 3) := by decide +kernel
theorem dX12_swap_33 : decode cX12_swap 33 = .ok (.aload_n 0, 1) := by decide +kernel
theorem dX12_swap_34 : decode cX12_swap 34 = .ok (.iload_n 1, 1) := by decide +kernel
theorem dX12_swap_35 : decode cX12_swap 35 = .ok (.iload_n 1, 1) := by decide +kernel
theorem dX12_swap_36 : decode cX12_swap 36 = .ok (.invokevirtual 439, 3) := by decide +kernel
theorem dX12_swap_39 : decode cX12_swap 39 = .ok (.if_icmp .le 22, 3) := by decide +kernel
theorem dX12_swap_42 : decode cX12_swap 42 = .ok (.aload_n 0, 1) := by decide +kernel
theorem dX12_swap_43 : decode cX12_swap 43 = .ok (.iload_n 2, 1) := by decide +kernel
theorem dX12_swap_44 : decode cX12_swap 44 = .ok (.iload_n 1, 1) := by decide +kernel
theorem dX12_swap_45 : decode cX12_swap 45 = .ok (.invokevirtual 439, 3) := by decide +kernel
theorem dX12_swap_48 : decode cX12_swap 48 = .ok (.aload_n 0, 1) := by decide +kernel
theorem dX12_swap_49 : decode cX12_swap 49 = .ok (.iload_n 2, 1) := by decide +kernel
theorem dX12_swap_50 : decode cX12_swap 50 = .ok (.iload_n 2, 1) := by decide +kernel
theorem dX12_swap_51 : decode cX12_swap 51 = .ok (.invokevirtual 439, 3) := by decide +kernel
theorem dX12_swap_54 : decode cX12_swap 54 = .ok (.if_icmp .le 7, 3) := by decide +kernel
theorem dX12_swap_57 : decode cX12_swap 57 = .ok (.iconst 1, 1) := by decide +kernel
theorem dX12_swap_58 : decode cX12_swap 58 = .ok (.goto 4, 3) := by decide +kernel
theorem dX12_swap_61 : decode cX12_swap 61 = .ok (.iconst 0, 1) := by decide +kernel
theorem dX12_swap_62 : decode cX12_swap 62 = .ok (.ireturn, 1) := by decide +kernel
theorem dX12_keptBy_0 : decode cX12_keptBy 0 = .ok (.iconst 0, 1) := by decide +kernel
theorem dX12_keptBy_1 : decode cX12_keptBy 1 = .ok (.istore_n 2, 1) := by decide +kernel
theorem dX12_keptBy_2 : decode cX12_keptBy 2 = .ok (.iconst 0, 1) := by decide +kernel
theorem dX12_keptBy_3 : decode cX12_keptBy 3 = .ok (.istore_n 3, 1) := by decide +kernel
theorem dX12_keptBy_4 : decode cX12_keptBy 4 = .ok (.iload_n 3, 1) := by decide +kernel
theorem dX12_keptBy_5 : decode cX12_keptBy 5 = .ok (.aload_n 0, 1) := by decide +kernel
theorem dX12_keptBy_6 : decode cX12_keptBy 6 = .ok (.invokevirtual 83, 3) := by decide +kernel
theorem dX12_keptBy_9 : decode cX12_keptBy 9 = .ok (.if_icmp .ge 40, 3) := by decide +kernel
theorem dX12_keptBy_12 : decode cX12_keptBy 12 = .ok (.iload_n 2, 1) := by decide +kernel
theorem dX12_keptBy_13 : decode cX12_keptBy 13 = .ok (.iload_n 1, 1) := by decide +kernel
theorem dX12_keptBy_14 : decode cX12_keptBy 14 = .ok (.iload_n 3, 1) := by decide +kernel
theorem dX12_keptBy_15 : decode cX12_keptBy 15 = .ok (.invokestatic 323, 3) := by decide +kernel
theorem dX12_keptBy_18 : decode cX12_keptBy 18 = .ok (.ifCond .eq 22, 3) := by decide +kernel
theorem dX12_keptBy_21 : decode cX12_keptBy 21 = .ok (.aload_n 0, 1) := by decide +kernel
theorem dX12_keptBy_22 : decode cX12_keptBy 22 = .ok (.iload_n 3, 1) := by decide +kernel
theorem dX12_keptBy_23 : decode cX12_keptBy 23 = .ok (.invokevirtual 363, 3) := by decide +kernel
theorem dX12_keptBy_26 : decode cX12_keptBy 26 = .ok (.ifCond .eq 14, 3) := by decide +kernel
theorem dX12_keptBy_29 : decode cX12_keptBy 29 = .ok (.iconst 1, 1) := by decide +kernel
theorem dX12_keptBy_30 : decode cX12_keptBy 30 = .ok (.aload_n 0, 1) := by decide +kernel
theorem dX12_keptBy_31 : decode cX12_keptBy 31 = .ok (.iload_n 3, 1) := by decide +kernel
theorem dX12_keptBy_32 : decode cX12_keptBy 32 = .ok (.iconst 5, 1) := by decide +kernel
theorem dX12_keptBy_33 : decode cX12_keptBy 33 = .ok (.invokevirtual 77, 3) := by decide +kernel
theorem dX12_keptBy_36 : decode cX12_keptBy 36 = .ok (.ishl, 1) := by decide +kernel
theorem dX12_keptBy_37 : decode cX12_keptBy 37 = .ok (.goto 4, 3) := by decide +kernel
theorem dX12_keptBy_40 : decode cX12_keptBy 40 = .ok (.iconst 0, 1) := by decide +kernel
theorem dX12_keptBy_41 : decode cX12_keptBy 41 = .ok (.ior, 1) := by decide +kernel
theorem dX12_keptBy_42 : decode cX12_keptBy 42 = .ok (.istore_n 2, 1) := by decide +kernel
theorem dX12_keptBy_43 : decode cX12_keptBy 43 = .ok (.iinc 3 1, 3) := by decide +kernel
theorem dX12_keptBy_46 : decode cX12_keptBy 46 = .ok (.goto (-42), 3) := by decide +kernel
theorem dX12_keptBy_49 : decode cX12_keptBy 49 = .ok (.iload_n 2, 1) := by decide +kernel
theorem dX12_keptBy_50 : decode cX12_keptBy 50 = .ok (.ireturn, 1) := by decide +kernel
theorem dX12_allChildren_0 : decode cX12_allChildren 0 = .ok (.iconst 1, 1) := by decide +kernel
theorem dX12_allChildren_1 : decode cX12_allChildren 1 = .ok (.aload_n 0, 1) := by decide +kernel
theorem dX12_allChildren_2 : decode cX12_allChildren 2 = .ok (.invokevirtual 83, 3) := by decide +kernel
theorem dX12_allChildren_5 : decode cX12_allChildren 5 = .ok (.ishl, 1) := by decide +kernel
theorem dX12_allChildren_6 : decode cX12_allChildren 6 = .ok (.iconst 1, 1) := by decide +kernel
theorem dX12_allChildren_7 : decode cX12_allChildren 7 = .ok (.isub, 1) := by decide +kernel
theorem dX12_allChildren_8 : decode cX12_allChildren 8 = .ok (.ireturn, 1) := by decide +kernel
theorem dX12_all_0 : decode cX12_all 0 = .ok (.aload_n 0, 1) := by decide +kernel
theorem dX12_all_1 : decode cX12_all 1 = .ok (.iconst 0, 1) := by decide +kernel
theorem dX12_all_2 : decode cX12_all 2 = .ok (.putfield 3, 3) := by decide +kernel
theorem dX12_all_5 : decode cX12_all 5 = .ok (.aload_n 0, 1) := by decide +kernel
theorem dX12_all_6 : decode cX12_all 6 = .ok (.aload_n 0, 1) := by decide +kernel
theorem dX12_all_7 : decode cX12_all 7 = .ok (.invokevirtual 451, 3) := by decide +kernel
theorem dX12_all_10 : decode cX12_all 10 = .ok (.invokevirtual 454, 3) := by decide +kernel
theorem dX12_all_13 : decode cX12_all 13 = .ok (.istore_n 1, 1) := by decide +kernel
theorem dX12_all_14 : decode cX12_all 14 = .ok (.aload_n 0, 1) := by decide +kernel
theorem dX12_all_15 : decode cX12_all 15 = .ok (.invokevirtual 451, 3) := by decide +kernel
theorem dX12_all_18 : decode cX12_all 18 = .ok (.istore_n 2, 1) := by decide +kernel
theorem dX12_all_19 : decode cX12_all 19 = .ok (.aload_n 0, 1) := by decide +kernel
theorem dX12_all_20 : decode cX12_all 20 = .ok (.invokevirtual 451, 3) := by decide +kernel
theorem dX12_all_23 : decode cX12_all 23 = .ok (.istore_n 3, 1) := by decide +kernel
theorem dX12_all_24 : decode cX12_all 24 = .ok (.iload_n 3, 1) := by decide +kernel
theorem dX12_all_25 : decode cX12_all 25 = .ok (.ifCond .lt 31, 3) := by decide +kernel
theorem dX12_all_28 : decode cX12_all 28 = .ok (.iload_n 3, 1) := by decide +kernel
theorem dX12_all_29 : decode cX12_all 29 = .ok (.invokestatic 269, 3) := by decide +kernel
theorem dX12_all_32 : decode cX12_all 32 = .ok (.iload_n 2, 1) := by decide +kernel
theorem dX12_all_33 : decode cX12_all 33 = .ok (.invokestatic 269, 3) := by decide +kernel
theorem dX12_all_36 : decode cX12_all 36 = .ok (.if_icmp .gt 14, 3) := by decide +kernel
theorem dX12_all_39 : decode cX12_all 39 = .ok (.aload_n 0, 1) := by decide +kernel
theorem dX12_all_40 : decode cX12_all 40 = .ok (.iload_n 3, 1) := by decide +kernel
theorem dX12_all_41 : decode cX12_all 41 = .ok (.invokevirtual 454, 3) := by decide +kernel
theorem dX12_all_44 : decode cX12_all 44 = .ok (.iload_n 1, 1) := by decide +kernel
theorem dX12_all_45 : decode cX12_all 45 = .ok (.if_icmp .ne 5, 3) := by decide +kernel
theorem dX12_all_48 : decode cX12_all 48 = .ok (.iload_n 3, 1) := by decide +kernel
theorem dX12_all_49 : decode cX12_all 49 = .ok (.istore_n 2, 1) := by decide +kernel
theorem dX12_all_50 : decode cX12_all 50 = .ok (.iinc 3 (-1), 3) := by decide +kernel
theorem dX12_all_53 : decode cX12_all 53 = .ok (.goto (-29), 3) := by decide +kernel
theorem dX12_all_56 : decode cX12_all 56 = .ok (.iload_n 2, 1) := by decide +kernel
theorem dX12_all_57 : decode cX12_all 57 = .ok (.ireturn, 1) := by decide +kernel
theorem dX12_missing_0 : decode cX12_missing 0 = .ok (.aload_n 0, 1) := by decide +kernel
theorem dX12_missing_1 : decode cX12_missing 1 = .ok (.iconst 0, 1) := by decide +kernel
theorem dX12_missing_2 : decode cX12_missing 2 = .ok (.putfield 3, 3) := by decide +kernel
theorem dX12_missing_5 : decode cX12_missing 5 = .ok (.aload_n 0, 1) := by decide +kernel
theorem dX12_missing_6 : decode cX12_missing 6 = .ok (.aload_n 0, 1) := by decide +kernel
theorem dX12_missing_7 : decode cX12_missing 7 = .ok (.invokevirtual 451, 3) := by decide +kernel
theorem dX12_missing_10 : decode cX12_missing 10 = .ok (.invokevirtual 454, 3) := by decide +kernel
theorem dX12_missing_13 : decode cX12_missing 13 = .ok (.istore_n 1, 1) := by decide +kernel
theorem dX12_missing_14 : decode cX12_missing 14 = .ok (.iconst 0, 1) := by decide +kernel
theorem dX12_missing_15 : decode cX12_missing 15 = .ok (.istore_n 2, 1) := by decide +kernel
theorem dX12_missing_16 : decode cX12_missing 16 = .ok (.iconst 0, 1) := by decide +kernel
theorem dX12_missing_17 : decode cX12_missing 17 = .ok (.istore_n 3, 1) := by decide +kernel
theorem dX12_missing_18 : decode cX12_missing 18 = .ok (.iload_n 3, 1) := by decide +kernel
theorem dX12_missing_19 : decode cX12_missing 19 = .ok (.bipush 8, 2) := by decide +kernel
theorem dX12_missing_21 : decode cX12_missing 21 = .ok (.if_icmp .ge 36, 3) := by decide +kernel
theorem dX12_missing_24 : decode cX12_missing 24 = .ok (.iload_n 2, 1) := by decide +kernel
theorem dX12_missing_25 : decode cX12_missing 25 = .ok (.aload_n 0, 1) := by decide +kernel
theorem dX12_missing_26 : decode cX12_missing 26 = .ok (.iload_n 3, 1) := by decide +kernel
theorem dX12_missing_27 : decode cX12_missing 27 = .ok (.iconst 0, 1) := by decide +kernel
theorem dX12_missing_28 : decode cX12_missing 28 = .ok (.invokevirtual 80, 3) := by decide +kernel
theorem dX12_missing_31 : decode cX12_missing 31 = .ok (.ifCond .le 17, 3) := by decide +kernel
theorem dX12_missing_34 : decode cX12_missing 34 = .ok (.iload_n 1, 1) := by decide +kernel
theorem dX12_missing_35 : decode cX12_missing 35 = .ok (.iload_n 3, 1) := by decide +kernel
theorem dX12_missing_36 : decode cX12_missing 36 = .ok (.invokestatic 323, 3) := by decide +kernel
theorem dX12_missing_39 : decode cX12_missing 39 = .ok (.ifCond .ne 9, 3) := by decide +kernel
theorem dX12_missing_42 : decode cX12_missing 42 = .ok (.iconst 1, 1) := by decide +kernel
theorem dX12_missing_43 : decode cX12_missing 43 = .ok (.iload_n 3, 1) := by decide +kernel
theorem dX12_missing_44 : decode cX12_missing 44 = .ok (.ishl, 1) := by decide +kernel
theorem dX12_missing_45 : decode cX12_missing 45 = .ok (.goto 4, 3) := by decide +kernel
theorem dX12_missing_48 : decode cX12_missing 48 = .ok (.iconst 0, 1) := by decide +kernel
theorem dX12_missing_49 : decode cX12_missing 49 = .ok (.ior, 1) := by decide +kernel
theorem dX12_missing_50 : decode cX12_missing 50 = .ok (.istore_n 2, 1) := by decide +kernel
theorem dX12_missing_51 : decode cX12_missing 51 = .ok (.iinc 3 1, 3) := by decide +kernel
theorem dX12_missing_54 : decode cX12_missing 54 = .ok (.goto (-36), 3) := by decide +kernel
theorem dX12_missing_57 : decode cX12_missing 57 = .ok (.iload_n 2, 1) := by decide +kernel
theorem dX12_missing_58 : decode cX12_missing 58 = .ok (.ireturn, 1) := by decide +kernel
theorem dX12_nobody_0 : decode cX12_nobody 0 = .ok (.aload_n 0, 1) := by decide +kernel
theorem dX12_nobody_1 : decode cX12_nobody 1 = .ok (.iconst 0, 1) := by decide +kernel
theorem dX12_nobody_2 : decode cX12_nobody 2 = .ok (.putfield 3, 3) := by decide +kernel
theorem dX12_nobody_5 : decode cX12_nobody 5 = .ok (.iconst 0, 1) := by decide +kernel
theorem dX12_nobody_6 : decode cX12_nobody 6 = .ok (.istore_n 1, 1) := by decide +kernel
theorem dX12_nobody_7 : decode cX12_nobody 7 = .ok (.iconst 1, 1) := by decide +kernel
theorem dX12_nobody_8 : decode cX12_nobody 8 = .ok (.istore_n 2, 1) := by decide +kernel
theorem dX12_nobody_9 : decode cX12_nobody 9 = .ok (.iload_n 2, 1) := by decide +kernel
theorem dX12_nobody_10 : decode cX12_nobody 10 = .ok (.bipush 8, 2) := by decide +kernel
theorem dX12_nobody_12 : decode cX12_nobody 12 = .ok (.if_icmp .ge 30, 3) := by decide +kernel
theorem dX12_nobody_15 : decode cX12_nobody 15 = .ok (.aload_n 0, 1) := by decide +kernel
theorem dX12_nobody_16 : decode cX12_nobody 16 = .ok (.iconst 4, 1) := by decide +kernel
theorem dX12_nobody_17 : decode cX12_nobody 17 = .ok (.iload_n 2, 1) := by decide +kernel
theorem dX12_nobody_18 : decode cX12_nobody 18 = .ok (.invokevirtual 296, 3) := by decide +kernel
theorem dX12_nobody_21 : decode cX12_nobody 21 = .ok (.aload_n 0, 1) := by decide +kernel
theorem dX12_nobody_22 : decode cX12_nobody 22 = .ok (.iconst 4, 1) := by decide +kernel
theorem dX12_nobody_23 : decode cX12_nobody 23 = .ok (.iload_n 1, 1) := by decide +kernel
theorem dX12_nobody_24 : decode cX12_nobody 24 = .ok (.invokevirtual 296, 3) := by decide +kernel
theorem dX12_nobody_27 : decode cX12_nobody 27 = .ok (.if_icmp .ge 7, 3) := by decide +kernel
theorem dX12_nobody_30 : decode cX12_nobody 30 = .ok (.iload_n 2, 1) := by decide +kernel
theorem dX12_nobody_31 : decode cX12_nobody 31 = .ok (.goto 4, 3) := by decide +kernel
theorem dX12_nobody_34 : decode cX12_nobody 34 = .ok (.iload_n 1, 1) := by decide +kernel
theorem dX12_nobody_35 : decode cX12_nobody 35 = .ok (.istore_n 1, 1) := by decide +kernel
theorem dX12_nobody_36 : decode cX12_nobody 36 = .ok (.iinc 2 1, 3) := by decide +kernel
theorem dX12_nobody_39 : decode cX12_nobody 39 = .ok (.goto (-30), 3) := by decide +kernel
theorem dX12_nobody_42 : decode cX12_nobody 42 = .ok (.iload_n 1, 1) := by decide +kernel
theorem dX12_nobody_43 : decode cX12_nobody 43 = .ok (.ireturn, 1) := by decide +kernel
theorem dX12_isLed_0 : decode cX12_isLed 0 = .ok (.aload_n 0, 1) := by decide +kernel
theorem dX12_isLed_1 : decode cX12_isLed 1 = .ok (.getfield 98, 3) := by decide +kernel
theorem dX12_isLed_4 : decode cX12_isLed 4 = .ok (.iconst 2, 1) := by decide +kernel
theorem dX12_isLed_5 : decode cX12_isLed 5 = .ok (.irem, 1) := by decide +kernel
theorem dX12_isLed_6 : decode cX12_isLed 6 = .ok (.ifCond .ne 16, 3) := by decide +kernel
theorem dX12_isLed_9 : decode cX12_isLed 9 = .ok (.aload_n 0, 1) := by decide +kernel
theorem dX12_isLed_10 : decode cX12_isLed 10 = .ok (.getfield 98, 3) := by decide +kernel
theorem dX12_isLed_13 : decode cX12_isLed 13 = .ok (.bipush 40, 2) := by decide +kernel
theorem dX12_isLed_15 : decode cX12_isLed 15 = .ok (.if_icmp .gt 7, 3) := by decide +kernel
theorem dX12_isLed_18 : decode cX12_isLed 18 = .ok (.iconst 1, 1) := by decide +kernel
theorem dX12_isLed_19 : decode cX12_isLed 19 = .ok (.goto 4, 3) := by decide +kernel
theorem dX12_isLed_22 : decode cX12_isLed 22 = .ok (.iconst 0, 1) := by decide +kernel
theorem dX12_isLed_23 : decode cX12_isLed 23 = .ok (.istore_n 1, 1) := by decide +kernel
theorem dX12_isLed_24 : decode cX12_isLed 24 = .ok (.iconst 0, 1) := by decide +kernel
theorem dX12_isLed_25 : decode cX12_isLed 25 = .ok (.istore_n 2, 1) := by decide +kernel
theorem dX12_isLed_26 : decode cX12_isLed 26 = .ok (.iload_n 2, 1) := by decide +kernel
theorem dX12_isLed_27 : decode cX12_isLed 27 = .ok (.aload_n 0, 1) := by decide +kernel
theorem dX12_isLed_28 : decode cX12_isLed 28 = .ok (.getfield 98, 3) := by decide +kernel
theorem dX12_isLed_31 : decode cX12_isLed 31 = .ok (.if_icmp .ge 31, 3) := by decide +kernel
theorem dX12_isLed_34 : decode cX12_isLed 34 = .ok (.iload_n 1, 1) := by decide +kernel
theorem dX12_isLed_35 : decode cX12_isLed 35 = .ok (.ifCond .eq 27, 3) := by decide +kernel
theorem dX12_isLed_38 : decode cX12_isLed 38 = .ok (.aload_n 0, 1) := by decide +kernel
theorem dX12_isLed_39 : decode cX12_isLed 39 = .ok (.getfield 29, 3) := by decide +kernel
theorem dX12_isLed_42 : decode cX12_isLed 42 = .ok (.iload_n 2, 1) := by decide +kernel
theorem dX12_isLed_43 : decode cX12_isLed 43 = .ok (.baload, 1) := by decide +kernel
theorem dX12_isLed_44 : decode cX12_isLed 44 = .ok (.invokestatic 293, 3) := by decide +kernel
theorem dX12_isLed_47 : decode cX12_isLed 47 = .ok (.ifCond .ne 7, 3) := by decide +kernel
theorem dX12_isLed_50 : decode cX12_isLed 50 = .ok (.iconst 1, 1) := by decide +kernel
theorem dX12_isLed_51 : decode cX12_isLed 51 = .ok (.goto 4, 3) := by decide +kernel
theorem dX12_isLed_54 : decode cX12_isLed 54 = .ok (.iconst 0, 1) := by decide +kernel
theorem dX12_isLed_55 : decode cX12_isLed 55 = .ok (.istore_n 1, 1) := by decide +kernel
theorem dX12_isLed_56 : decode cX12_isLed 56 = .ok (.iinc 2 2, 3) := by decide +kernel
theorem dX12_isLed_59 : decode cX12_isLed 59 = .ok (.goto (-33), 3) := by decide +kernel
theorem dX12_isLed_62 : decode cX12_isLed 62 = .ok (.iload_n 1, 1) := by decide +kernel
theorem dX12_isLed_63 : decode cX12_isLed 63 = .ok (.ireturn, 1) := by decide +kernel
theorem dX12_fateBy_0 : decode cX12_fateBy 0 = .ok (.aload_n 0, 1) := by decide +kernel
theorem dX12_fateBy_1 : decode cX12_fateBy 1 = .ok (.iload_n 2, 1) := by decide +kernel
theorem dX12_fateBy_2 : decode cX12_fateBy 2 = .ok (.iconst 3, 1) := by decide +kernel
theorem dX12_fateBy_3 : decode cX12_fateBy 3 = .ok (.invokevirtual 80, 3) := by decide +kernel
theorem dX12_fateBy_6 : decode cX12_fateBy 6 = .ok (.iload_n 1, 1) := by decide +kernel
theorem dX12_fateBy_7 : decode cX12_fateBy 7 = .ok (.bipush 100, 2) := by decide +kernel
theorem dX12_fateBy_9 : decode cX12_fateBy 9 = .ok (.idiv, 1) := by decide +kernel
theorem dX12_fateBy_10 : decode cX12_fateBy 10 = .ok (.imul, 1) := by decide +kernel
theorem dX12_fateBy_11 : decode cX12_fateBy 11 = .ok (.iload_n 1, 1) := by decide +kernel
theorem dX12_fateBy_12 : decode cX12_fateBy 12 = .ok (.bipush 100, 2) := by decide +kernel
theorem dX12_fateBy_14 : decode cX12_fateBy 14 = .ok (.irem, 1) := by decide +kernel
theorem dX12_fateBy_15 : decode cX12_fateBy 15 = .ok (.iadd, 1) := by decide +kernel
theorem dX12_fateBy_16 : decode cX12_fateBy 16 = .ok (.ireturn, 1) := by decide +kernel
theorem dX12_fits_0 : decode cX12_fits 0 = .ok (.iconst 1, 1) := by decide +kernel
theorem dX12_fits_1 : decode cX12_fits 1 = .ok (.istore_n 2, 1) := by decide +kernel
theorem dX12_fits_2 : decode cX12_fits 2 = .ok (.iconst 0, 1) := by decide +kernel
theorem dX12_fits_3 : decode cX12_fits 3 = .ok (.istore_n 3, 1) := by decide +kernel
theorem dX12_fits_4 : decode cX12_fits 4 = .ok (.iload_n 3, 1) := by decide +kernel
theorem dX12_fits_5 : decode cX12_fits 5 = .ok (.aload_n 0, 1) := by decide +kernel
theorem dX12_fits_6 : decode cX12_fits 6 = .ok (.getfield 98, 3) := by decide +kernel
theorem dX12_fits_9 : decode cX12_fits 9 = .ok (.if_icmp .ge 45, 3) := by decide +kernel
theorem dX12_fits_12 : decode cX12_fits 12 = .ok (.iload_n 2, 1) := by decide +kernel
theorem dX12_fits_13 : decode cX12_fits 13 = .ok (.ifCond .eq 33, 3) := by decide +kernel
theorem dX12_fits_16 : decode cX12_fits 16 = .ok (.aload_n 0, 1) := by decide +kernel
theorem dX12_fits_17 : decode cX12_fits 17 = .ok (.iload_n 1, 1) := by decide +kernel
theorem dX12_fits_18 : decode cX12_fits 18 = .ok (.aload_n 0, 1) := by decide +kernel
theorem dX12_fits_19 : decode cX12_fits 19 = .ok (.getfield 29, 3) := by decide +kernel
theorem dX12_fits_22 : decode cX12_fits 22 = .ok (.iload_n 3, 1) := by decide +kernel
theorem dX12_fits_23 : decode cX12_fits 23 = .ok (.baload, 1) := by decide +kernel
theorem dX12_fits_24 : decode cX12_fits 24 = .ok (.invokevirtual 457, 3) := by decide +kernel
theorem dX12_fits_27 : decode cX12_fits 27 = .ok (.aload_n 0, 1) := by decide +kernel
theorem dX12_fits_28 : decode cX12_fits 28 = .ok (.getfield 29, 3) := by decide +kernel
theorem dX12_fits_31 : decode cX12_fits 31 = .ok (.iload_n 3, 1) := by decide +kernel
theorem dX12_fits_32 : decode cX12_fits 32 = .ok (.iconst 1, 1) := by decide +kernel
theorem dX12_fits_33 : decode cX12_fits 33 = .ok (.iadd, 1) := by decide +kernel
theorem dX12_fits_34 : decode cX12_fits 34 = .ok (.baload, 1) := by decide +kernel
theorem dX12_fits_35 : decode cX12_fits 35 = .ok (.sipush 255, 3) := by decide +kernel
theorem dX12_fits_38 : decode cX12_fits 38 = .ok (.iand, 1) := by decide +kernel
theorem dX12_fits_39 : decode cX12_fits 39 = .ok (.if_icmp .ne 7, 3) := by decide +kernel
theorem dX12_fits_42 : decode cX12_fits 42 = .ok (.iconst 1, 1) := by decide +kernel
theorem dX12_fits_43 : decode cX12_fits 43 = .ok (.goto 4, 3) := by decide +kernel
theorem dX12_fits_46 : decode cX12_fits 46 = .ok (.iconst 0, 1) := by decide +kernel
theorem dX12_fits_47 : decode cX12_fits 47 = .ok (.istore_n 2, 1) := by decide +kernel
theorem dX12_fits_48 : decode cX12_fits 48 = .ok (.iinc 3 2, 3) := by decide +kernel
theorem dX12_fits_51 : decode cX12_fits 51 = .ok (.goto (-47), 3) := by decide +kernel
theorem dX12_fits_54 : decode cX12_fits 54 = .ok (.iload_n 2, 1) := by decide +kernel
theorem dX12_fits_55 : decode cX12_fits 55 = .ok (.ireturn, 1) := by decide +kernel
theorem dX12_rules_0 : decode cX12_rules 0 = .ok (.aload_n 0, 1) := by decide +kernel
theorem dX12_rules_1 : decode cX12_rules 1 = .ok (.invokevirtual 255, 3) := by decide +kernel
theorem dX12_rules_4 : decode cX12_rules 4 = .ok (.aload_n 0, 1) := by decide +kernel
theorem dX12_rules_5 : decode cX12_rules 5 = .ok (.aload_n 0, 1) := by decide +kernel
theorem dX12_rules_6 : decode cX12_rules 6 = .ok (.invokevirtual 460, 3) := by decide +kernel
theorem dX12_rules_9 : decode cX12_rules 9 = .ok (.ifCond .ne 7, 3) := by decide +kernel
theorem dX12_rules_12 : decode cX12_rules 12 = .ok (.iconst 1, 1) := by decide +kernel
theorem dX12_rules_13 : decode cX12_rules 13 = .ok (.goto 4, 3) := by decide +kernel
theorem dX12_rules_16 : decode cX12_rules 16 = .ok (.iconst 0, 1) := by decide +kernel
theorem dX12_rules_17 : decode cX12_rules 17 = .ok (.iconst 1, 1) := by decide +kernel
theorem dX12_rules_18 : decode cX12_rules 18 = .ok (.invokevirtual 266, 3) := by decide +kernel
theorem dX12_rules_21 : decode cX12_rules 21 = .ok (.ifCond .eq 5, 3) := by decide +kernel
theorem dX12_rules_24 : decode cX12_rules 24 = .ok (.iconst 0, 1) := by decide +kernel
theorem dX12_rules_25 : decode cX12_rules 25 = .ok (.ireturn, 1) := by decide +kernel
theorem dX12_rules_26 : decode cX12_rules 26 = .ok (.iconst 0, 1) := by decide +kernel
theorem dX12_rules_27 : decode cX12_rules 27 = .ok (.istore_n 2, 1) := by decide +kernel
theorem dX12_rules_28 : decode cX12_rules 28 = .ok (.iconst (-1), 1) := by decide +kernel
theorem dX12_rules_29 : decode cX12_rules 29 = .ok (.istore_n 3, 1) := by decide +kernel
theorem dX12_rules_30 : decode cX12_rules 30 = .ok (.sipush 999, 3) := by decide +kernel
theorem dX12_rules_33 : decode cX12_rules 33 = .ok (.istore 4, 2) := by decide +kernel
theorem dX12_rules_35 : decode cX12_rules 35 = .ok (.iload 4, 2) := by decide +kernel
theorem dX12_rules_37 : decode cX12_rules 37 = .ok (.ifCond .lt 27, 3) := by decide +kernel
theorem dX12_rules_40 : decode cX12_rules 40 = .ok (.aload_n 0, 1) := by decide +kernel
theorem dX12_rules_41 : decode cX12_rules 41 = .ok (.iload 4, 2) := by decide +kernel
theorem dX12_rules_43 : decode cX12_rules 43 = .ok (.invokevirtual 463, 3) := by decide +kernel
theorem dX12_rules_46 : decode cX12_rules 46 = .ok (.ifCond .ne 6, 3) := by decide +kernel
theorem dX12_rules_49 : decode cX12_rules 49 = .ok (.goto 9, 3) := by decide +kernel
theorem dX12_rules_52 : decode cX12_rules 52 = .ok (.iinc 2 1, 3) := by decide +kernel
theorem dX12_rules_55 : decode cX12_rules 55 = .ok (.iload 4, 2) := by decide +kernel
theorem dX12_rules_57 : decode cX12_rules 57 = .ok (.istore_n 3, 1) := by decide +kernel
theorem dX12_rules_58 : decode cX12_rules 58 = .ok (.iinc 4 (-1), 3) := by decide +kernel
theorem dX12_rules_61 : decode cX12_rules 61 = .ok (.goto (-26), 3) := by decide +kernel
theorem dX12_rules_64 : decode cX12_rules 64 = .ok (.iload_n 1, 1) := by decide +kernel
theorem dX12_rules_65 : decode cX12_rules 65 = .ok (.ifCond .eq 7, 3) := by decide +kernel
theorem dX12_rules_68 : decode cX12_rules 68 = .ok (.iload_n 3, 1) := by decide +kernel
theorem dX12_rules_69 : decode cX12_rules 69 = .ok (.goto 4, 3) := by decide +kernel
theorem dX12_rules_72 : decode cX12_rules 72 = .ok (.iload_n 2, 1) := by decide +kernel
theorem dX12_rules_73 : decode cX12_rules 73 = .ok (.ireturn, 1) := by decide +kernel
theorem dX12_partBy_0 : decode cX12_partBy 0 = .ok (.iconst 0, 1) := by decide +kernel
theorem dX12_partBy_1 : decode cX12_partBy 1 = .ok (.istore_n 2, 1) := by decide +kernel
theorem dX12_partBy_2 : decode cX12_partBy 2 = .ok (.iconst 0, 1) := by decide +kernel
theorem dX12_partBy_3 : decode cX12_partBy 3 = .ok (.istore_n 3, 1) := by decide +kernel
theorem dX12_partBy_4 : decode cX12_partBy 4 = .ok (.iload_n 3, 1) := by decide +kernel
theorem dX12_partBy_5 : decode cX12_partBy 5 = .ok (.sipush 1000, 3) := by decide +kernel
theorem dX12_partBy_8 : decode cX12_partBy 8 = .ok (.if_icmp .ge 16, 3) := by decide +kernel
theorem dX12_partBy_11 : decode cX12_partBy 11 = .ok (.aload_n 0, 1) := by decide +kernel
theorem dX12_partBy_12 : decode cX12_partBy 12 = .ok (.getfield 60, 3) := by decide +kernel
theorem dX12_partBy_15 : decode cX12_partBy 15 = .ok (.iload_n 3, 1) := by decide +kernel
theorem dX12_partBy_16 : decode cX12_partBy 16 = .ok (.iconst 0, 1) := by decide +kernel
theorem dX12_partBy_17 : decode cX12_partBy 17 = .ok (.iastore, 1) := by decide +kernel
theorem dX12_partBy_18 : decode cX12_partBy 18 = .ok (.iinc 3 1, 3) := by decide +kernel
theorem dX12_partBy_21 : decode cX12_partBy 21 = .ok (.goto (-17), 3) := by decide +kernel
theorem dX12_partBy_24 : decode cX12_partBy 24 = .ok (.iconst 0, 1) := by decide +kernel
theorem dX12_partBy_25 : decode cX12_partBy 25 = .ok (.istore_n 3, 1) := by decide +kernel
theorem dX12_partBy_26 : decode cX12_partBy 26 = .ok (.iload_n 3, 1) := by decide +kernel
theorem dX12_partBy_27 : decode cX12_partBy 27 = .ok (.sipush 1000, 3) := by decide +kernel
theorem dX12_partBy_30 : decode cX12_partBy 30 = .ok (.if_icmp .ge 51, 3) := by decide +kernel
theorem dX12_partBy_33 : decode cX12_partBy 33 = .ok (.aload_n 0, 1) := by decide +kernel
theorem dX12_partBy_34 : decode cX12_partBy 34 = .ok (.iload_n 3, 1) := by decide +kernel
theorem dX12_partBy_35 : decode cX12_partBy 35 = .ok (.invokevirtual 463, 3) := by decide +kernel
theorem dX12_partBy_38 : decode cX12_partBy 38 = .ok (.ifCond .ne 6, 3) := by decide +kernel
theorem dX12_partBy_41 : decode cX12_partBy 41 = .ok (.goto 34, 3) := by decide +kernel
theorem dX12_partBy_44 : decode cX12_partBy 44 = .ok (.aload_n 0, 1) := by decide +kernel
theorem dX12_partBy_45 : decode cX12_partBy 45 = .ok (.iload_n 3, 1) := by decide +kernel
theorem dX12_partBy_46 : decode cX12_partBy 46 = .ok (.iload_n 1, 1) := by decide +kernel
theorem dX12_partBy_47 : decode cX12_partBy 47 = .ok (.invokevirtual 457, 3) := by decide +kernel
theorem dX12_partBy_50 : decode cX12_partBy 50 = .ok (.istore 4, 2) := by decide +kernel
theorem dX12_partBy_52 : decode cX12_partBy 52 = .ok (.aload_n 0, 1) := by decide +kernel
theorem dX12_partBy_53 : decode cX12_partBy 53 = .ok (.getfield 60, 3) := by decide +kernel
theorem dX12_partBy_56 : decode cX12_partBy 56 = .ok (.iload 4, 2) := by decide +kernel
theorem dX12_partBy_58 : decode cX12_partBy 58 = .ok (.dup2, 1) := by decide +kernel
theorem dX12_partBy_59 : decode cX12_partBy 59 = .ok (.iaload, 1) := by decide +kernel
theorem dX12_partBy_60 : decode cX12_partBy 60 = .ok (.iconst 1, 1) := by decide +kernel
theorem dX12_partBy_61 : decode cX12_partBy 61 = .ok (.iadd, 1) := by decide +kernel
theorem dX12_partBy_62 : decode cX12_partBy 62 = .ok (.iastore, 1) := by decide +kernel
theorem dX12_partBy_63 : decode cX12_partBy 63 = .ok (.iload_n 2, 1) := by decide +kernel
theorem dX12_partBy_64 : decode cX12_partBy 64 = .ok (.aload_n 0, 1) := by decide +kernel
theorem dX12_partBy_65 : decode cX12_partBy 65 = .ok (.getfield 60, 3) := by decide +kernel
theorem dX12_partBy_68 : decode cX12_partBy 68 = .ok (.iload 4, 2) := by decide +kernel
theorem dX12_partBy_70 : decode cX12_partBy 70 = .ok (.iaload, 1) := by decide +kernel
theorem dX12_partBy_71 : decode cX12_partBy 71 = .ok (.invokestatic 285, 3) := by decide +kernel
theorem dX12_partBy_74 : decode cX12_partBy 74 = .ok (.istore_n 2, 1) := by decide +kernel
theorem dX12_partBy_75 : decode cX12_partBy 75 = .ok (.iinc 3 1, 3) := by decide +kernel
theorem dX12_partBy_78 : decode cX12_partBy 78 = .ok (.goto (-52), 3) := by decide +kernel
theorem dX12_partBy_81 : decode cX12_partBy 81 = .ok (.iload_n 2, 1) := by decide +kernel
theorem dX12_partBy_82 : decode cX12_partBy 82 = .ok (.ireturn, 1) := by decide +kernel
theorem dX12_tell_0 : decode cX12_tell 0 = .ok (.aload_n 0, 1) := by decide +kernel
theorem dX12_tell_1 : decode cX12_tell 1 = .ok (.invokevirtual 255, 3) := by decide +kernel
theorem dX12_tell_4 : decode cX12_tell 4 = .ok (.aload_n 0, 1) := by decide +kernel
theorem dX12_tell_5 : decode cX12_tell 5 = .ok (.aload_n 0, 1) := by decide +kernel
theorem dX12_tell_6 : decode cX12_tell 6 = .ok (.invokevirtual 460, 3) := by decide +kernel
theorem dX12_tell_9 : decode cX12_tell 9 = .ok (.ifCond .ne 7, 3) := by decide +kernel
theorem dX12_tell_12 : decode cX12_tell 12 = .ok (.iconst 1, 1) := by decide +kernel
theorem dX12_tell_13 : decode cX12_tell 13 = .ok (.goto 4, 3) := by decide +kernel
theorem dX12_tell_16 : decode cX12_tell 16 = .ok (.iconst 0, 1) := by decide +kernel
theorem dX12_tell_17 : decode cX12_tell 17 = .ok (.iconst 1, 1) := by decide +kernel
theorem dX12_tell_18 : decode cX12_tell 18 = .ok (.invokevirtual 266, 3) := by decide +kernel
theorem dX12_tell_21 : decode cX12_tell 21 = .ok (.ifCond .eq 5, 3) := by decide +kernel
theorem dX12_tell_24 : decode cX12_tell 24 = .ok (.iconst 0, 1) := by decide +kernel
theorem dX12_tell_25 : decode cX12_tell 25 = .ok (.ireturn, 1) := by decide +kernel
theorem dX12_tell_26 : decode cX12_tell 26 = .ok (.iconst 0, 1) := by decide +kernel
theorem dX12_tell_27 : decode cX12_tell 27 = .ok (.istore_n 1, 1) := by decide +kernel
theorem dX12_tell_28 : decode cX12_tell 28 = .ok (.iconst 0, 1) := by decide +kernel
theorem dX12_tell_29 : decode cX12_tell 29 = .ok (.istore_n 2, 1) := by decide +kernel
theorem dX12_tell_30 : decode cX12_tell 30 = .ok (.iload_n 2, 1) := by decide +kernel
theorem dX12_tell_31 : decode cX12_tell 31 = .ok (.sipush 1000, 3) := by decide +kernel
theorem dX12_tell_34 : decode cX12_tell 34 = .ok (.if_icmp .ge 25, 3) := by decide +kernel
theorem dX12_tell_37 : decode cX12_tell 37 = .ok (.iload_n 1, 1) := by decide +kernel
theorem dX12_tell_38 : decode cX12_tell 38 = .ok (.aload_n 0, 1) := by decide +kernel
theorem dX12_tell_39 : decode cX12_tell 39 = .ok (.iload_n 2, 1) := by decide +kernel
theorem dX12_tell_40 : decode cX12_tell 40 = .ok (.invokevirtual 463, 3) := by decide +kernel
theorem dX12_tell_43 : decode cX12_tell 43 = .ok (.ifCond .eq 7, 3) := by decide +kernel
theorem dX12_tell_46 : decode cX12_tell 46 = .ok (.iconst 1, 1) := by decide +kernel
theorem dX12_tell_47 : decode cX12_tell 47 = .ok (.goto 4, 3) := by decide +kernel
theorem dX12_tell_50 : decode cX12_tell 50 = .ok (.iconst 0, 1) := by decide +kernel
theorem dX12_tell_51 : decode cX12_tell 51 = .ok (.iadd, 1) := by decide +kernel
theorem dX12_tell_52 : decode cX12_tell 52 = .ok (.istore_n 1, 1) := by decide +kernel
theorem dX12_tell_53 : decode cX12_tell 53 = .ok (.iinc 2 1, 3) := by decide +kernel
theorem dX12_tell_56 : decode cX12_tell 56 = .ok (.goto (-26), 3) := by decide +kernel
theorem dX12_tell_59 : decode cX12_tell 59 = .ok (.iconst (-1), 1) := by decide +kernel
theorem dX12_tell_60 : decode cX12_tell 60 = .ok (.istore_n 2, 1) := by decide +kernel
theorem dX12_tell_61 : decode cX12_tell 61 = .ok (.ldc 133, 2) := by decide +kernel
theorem dX12_tell_63 : decode cX12_tell 63 = .ok (.istore_n 3, 1) := by decide +kernel
theorem dX12_tell_64 : decode cX12_tell 64 = .ok (.iconst 0, 1) := by decide +kernel
theorem dX12_tell_65 : decode cX12_tell 65 = .ok (.istore 4, 2) := by decide +kernel
theorem dX12_tell_67 : decode cX12_tell 67 = .ok (.iload 4, 2) := by decide +kernel
theorem dX12_tell_69 : decode cX12_tell 69 = .ok (.bipush 8, 2) := by decide +kernel
theorem dX12_tell_71 : decode cX12_tell 71 = .ok (.if_icmp .ge 42, 3) := by decide +kernel
theorem dX12_tell_74 : decode cX12_tell 74 = .ok (.iload_n 1, 1) := by decide +kernel
theorem dX12_tell_75 : decode cX12_tell 75 = .ok (.iconst 1, 1) := by decide +kernel
theorem dX12_tell_76 : decode cX12_tell 76 = .ok (.if_icmp .le 37, 3) := by decide +kernel
theorem dX12_tell_79 : decode cX12_tell 79 = .ok (.aload_n 0, 1) := by decide +kernel
theorem dX12_tell_80 : decode cX12_tell 80 = .ok (.iload 4, 2) := by decide +kernel
theorem dX12_tell_82 : decode cX12_tell 82 = .ok (.invokevirtual 466, 3) := by decide +kernel
theorem dX12_tell_85 : decode cX12_tell 85 = .ok (.istore 5, 2) := by decide +kernel
theorem dX12_tell_87 : decode cX12_tell 87 = .ok (.iload 5, 2) := by decide +kernel
theorem dX12_tell_89 : decode cX12_tell 89 = .ok (.iload_n 3, 1) := by decide +kernel
theorem dX12_tell_90 : decode cX12_tell 90 = .ok (.if_icmp .ge 8, 3) := by decide +kernel
theorem dX12_tell_93 : decode cX12_tell 93 = .ok (.iload 4, 2) := by decide +kernel
theorem dX12_tell_95 : decode cX12_tell 95 = .ok (.goto 4, 3) := by decide +kernel
theorem dX12_tell_98 : decode cX12_tell 98 = .ok (.iload_n 2, 1) := by decide +kernel
theorem dX12_tell_99 : decode cX12_tell 99 = .ok (.istore_n 2, 1) := by decide +kernel
theorem dX12_tell_100 : decode cX12_tell 100 = .ok (.iload_n 3, 1) := by decide +kernel
theorem dX12_tell_101 : decode cX12_tell 101 = .ok (.iload 5, 2) := by decide +kernel
theorem dX12_tell_103 : decode cX12_tell 103 = .ok (.invokestatic 311, 3) := by decide +kernel
theorem dX12_tell_106 : decode cX12_tell 106 = .ok (.istore_n 3, 1) := by decide +kernel
theorem dX12_tell_107 : decode cX12_tell 107 = .ok (.iinc 4 1, 3) := by decide +kernel
theorem dX12_tell_110 : decode cX12_tell 110 = .ok (.goto (-43), 3) := by decide +kernel
theorem dX12_tell_113 : decode cX12_tell 113 = .ok (.iload_n 2, 1) := by decide +kernel
theorem dX12_tell_114 : decode cX12_tell 114 = .ok (.ireturn, 1) := by decide +kernel
theorem dX12_expectOfAll_0 : decode cX12_expectOfAll 0 = .ok (.aload_n 0, 1) := by decide +kernel
theorem dX12_expectOfAll_1 : decode cX12_expectOfAll 1 = .ok (.iconst 0, 1) := by decide +kernel
theorem dX12_expectOfAll_2 : decode cX12_expectOfAll 2 = .ok (.putfield 98, 3) := by decide +kernel
theorem dX12_expectOfAll_5 : decode cX12_expectOfAll 5 = .ok (.aload_n 0, 1) := by decide +kernel
theorem dX12_expectOfAll_6 : decode cX12_expectOfAll 6 = .ok (.aload_n 0, 1) := by decide +kernel
theorem dX12_expectOfAll_7 : decode cX12_expectOfAll 7 = .ok (.invokevirtual 406, 3) := by decide +kernel
theorem dX12_expectOfAll_10 : decode cX12_expectOfAll 10 = .ok (.invokevirtual 412, 3) := by decide +kernel
theorem dX12_expectOfAll_13 : decode cX12_expectOfAll 13 = .ok (.ireturn, 1) := by decide +kernel
theorem dX12_familyHas_0 : decode cX12_familyHas 0 = .ok (.iload_n 3, 1) := by decide +kernel
theorem dX12_familyHas_1 : decode cX12_familyHas 1 = .ok (.ifCond .ne 20, 3) := by decide +kernel
theorem dX12_familyHas_4 : decode cX12_familyHas 4 = .ok (.iload 4, 2) := by decide +kernel
theorem dX12_familyHas_6 : decode cX12_familyHas 6 = .ok (.ifCond .ne 13, 3) := by decide +kernel
theorem dX12_familyHas_9 : decode cX12_familyHas 9 = .ok (.aload_n 0, 1) := by decide +kernel
theorem dX12_familyHas_10 : decode cX12_familyHas 10 = .ok (.iload_n 1, 1) := by decide +kernel
theorem dX12_familyHas_11 : decode cX12_familyHas 11 = .ok (.iconst 3, 1) := by decide +kernel
theorem dX12_familyHas_12 : decode cX12_familyHas 12 = .ok (.invokevirtual 77, 3) := by decide +kernel
theorem dX12_familyHas_15 : decode cX12_familyHas 15 = .ok (.ineg, 1) := by decide +kernel
theorem dX12_familyHas_16 : decode cX12_familyHas 16 = .ok (.goto 4, 3) := by decide +kernel
theorem dX12_familyHas_19 : decode cX12_familyHas 19 = .ok (.iload_n 2, 1) := by decide +kernel
theorem dX12_familyHas_20 : decode cX12_familyHas 20 = .ok (.ireturn, 1) := by decide +kernel
theorem dX12_familyHas_21 : decode cX12_familyHas 21 = .ok (.iload 4, 2) := by decide +kernel
theorem dX12_familyHas_23 : decode cX12_familyHas 23 = .ok (.ifCond .ne 7, 3) := by decide +kernel
theorem dX12_familyHas_26 : decode cX12_familyHas 26 = .ok (.iconst 0, 1) := by decide +kernel
theorem dX12_familyHas_27 : decode cX12_familyHas 27 = .ok (.goto 6, 3) := by decide +kernel
theorem dX12_familyHas_30 : decode cX12_familyHas 30 = .ok (.iload_n 2, 1) := by decide +kernel
theorem dX12_familyHas_31 : decode cX12_familyHas 31 = .ok (.iconst 2, 1) := by decide +kernel
theorem dX12_familyHas_32 : decode cX12_familyHas 32 = .ok (.idiv, 1) := by decide +kernel
theorem dX12_familyHas_33 : decode cX12_familyHas 33 = .ok (.ireturn, 1) := by decide +kernel
theorem dX12_childHas_0 : decode cX12_childHas 0 = .ok (.iload_n 0, 1) := by decide +kernel
theorem dX12_childHas_1 : decode cX12_childHas 1 = .ok (.ifCond .ne 11, 3) := by decide +kernel
theorem dX12_childHas_4 : decode cX12_childHas 4 = .ok (.iconst 1, 1) := by decide +kernel
theorem dX12_childHas_5 : decode cX12_childHas 5 = .ok (.iconst 3, 1) := by decide +kernel
theorem dX12_childHas_6 : decode cX12_childHas 6 = .ok (.iload_n 1, 1) := by decide +kernel
theorem dX12_childHas_7 : decode cX12_childHas 7 = .ok (.imul, 1) := by decide +kernel
theorem dX12_childHas_8 : decode cX12_childHas 8 = .ok (.isub, 1) := by decide +kernel
theorem dX12_childHas_9 : decode cX12_childHas 9 = .ok (.goto 6, 3) := by decide +kernel
theorem dX12_childHas_12 : decode cX12_childHas 12 = .ok (.iconst 2, 1) := by decide +kernel
theorem dX12_childHas_13 : decode cX12_childHas 13 = .ok (.iload_n 1, 1) := by decide +kernel
theorem dX12_childHas_14 : decode cX12_childHas 14 = .ok (.imul, 1) := by decide +kernel
theorem dX12_childHas_15 : decode cX12_childHas 15 = .ok (.ireturn, 1) := by decide +kernel
theorem dX12_rests_0 : decode cX12_rests 0 = .ok (.aload_n 0, 1) := by decide +kernel
theorem dX12_rests_1 : decode cX12_rests 1 = .ok (.iconst 0, 1) := by decide +kernel
theorem dX12_rests_2 : decode cX12_rests 2 = .ok (.putfield 3, 3) := by decide +kernel
theorem dX12_rests_5 : decode cX12_rests 5 = .ok (.aload_n 0, 1) := by decide +kernel
theorem dX12_rests_6 : decode cX12_rests 6 = .ok (.aload_n 0, 1) := by decide +kernel
theorem dX12_rests_7 : decode cX12_rests 7 = .ok (.iload_n 1, 1) := by decide +kernel
theorem dX12_rests_8 : decode cX12_rests 8 = .ok (.invokevirtual 299, 3) := by decide +kernel
theorem dX12_rests_11 : decode cX12_rests 11 = .ok (.iconst 1, 1) := by decide +kernel
theorem dX12_rests_12 : decode cX12_rests 12 = .ok (.invokevirtual 266, 3) := by decide +kernel
theorem dX12_rests_15 : decode cX12_rests 15 = .ok (.ifCond .eq 5, 3) := by decide +kernel
theorem dX12_rests_18 : decode cX12_rests 18 = .ok (.iconst 0, 1) := by decide +kernel
theorem dX12_rests_19 : decode cX12_rests 19 = .ok (.ireturn, 1) := by decide +kernel
theorem dX12_rests_20 : decode cX12_rests 20 = .ok (.aload_n 0, 1) := by decide +kernel
theorem dX12_rests_21 : decode cX12_rests 21 = .ok (.iload_n 1, 1) := by decide +kernel
theorem dX12_rests_22 : decode cX12_rests 22 = .ok (.invokevirtual 329, 3) := by decide +kernel
theorem dX12_rests_25 : decode cX12_rests 25 = .ok (.ifCond .eq 5, 3) := by decide +kernel
theorem dX12_rests_28 : decode cX12_rests 28 = .ok (.iconst (-1), 1) := by decide +kernel
theorem dX12_rests_29 : decode cX12_rests 29 = .ok (.ireturn, 1) := by decide +kernel
theorem dX12_rests_30 : decode cX12_rests 30 = .ok (.aload_n 0, 1) := by decide +kernel
theorem dX12_rests_31 : decode cX12_rests 31 = .ok (.invokevirtual 469, 3) := by decide +kernel
theorem dX12_rests_34 : decode cX12_rests 34 = .ok (.istore_n 2, 1) := by decide +kernel
theorem dX12_rests_35 : decode cX12_rests 35 = .ok (.iconst 0, 1) := by decide +kernel
theorem dX12_rests_36 : decode cX12_rests 36 = .ok (.istore_n 3, 1) := by decide +kernel
theorem dX12_rests_37 : decode cX12_rests 37 = .ok (.iconst 0, 1) := by decide +kernel
theorem dX12_rests_38 : decode cX12_rests 38 = .ok (.istore 4, 2) := by decide +kernel
theorem dX12_rests_40 : decode cX12_rests 40 = .ok (.iload 4, 2) := by decide +kernel
theorem dX12_rests_42 : decode cX12_rests 42 = .ok (.iconst 2, 1) := by decide +kernel
theorem dX12_rests_43 : decode cX12_rests 43 = .ok (.if_icmp .ge 96, 3) := by decide +kernel
theorem dX12_rests_46 : decode cX12_rests 46 = .ok (.iconst 0, 1) := by decide +kernel
theorem dX12_rests_47 : decode cX12_rests 47 = .ok (.istore 5, 2) := by decide +kernel
theorem dX12_rests_49 : decode cX12_rests 49 = .ok (.iload 5, 2) := by decide +kernel
theorem dX12_rests_51 : decode cX12_rests 51 = .ok (.iconst 2, 1) := by decide +kernel
theorem dX12_rests_52 : decode cX12_rests 52 = .ok (.if_icmp .ge 81, 3) := by decide +kernel
theorem dX12_rests_55 : decode cX12_rests 55 = .ok (.aload_n 0, 1) := by decide +kernel
theorem dX12_rests_56 : decode cX12_rests 56 = .ok (.iload_n 1, 1) := by decide +kernel
theorem dX12_rests_57 : decode cX12_rests 57 = .ok (.iload_n 2, 1) := by decide +kernel
theorem dX12_rests_58 : decode cX12_rests 58 = .ok (.iload 4, 2) := by decide +kernel
theorem dX12_rests_60 : decode cX12_rests 60 = .ok (.iload 5, 2) := by decide +kernel
theorem dX12_rests_62 : decode cX12_rests 62 = .ok (.invokevirtual 472, 3) := by decide +kernel
theorem dX12_rests_65 : decode cX12_rests 65 = .ok (.aload_n 0, 1) := by decide +kernel
theorem dX12_rests_66 : decode cX12_rests 66 = .ok (.iload_n 1, 1) := by decide +kernel
theorem dX12_rests_67 : decode cX12_rests 67 = .ok (.iload_n 2, 1) := by decide +kernel
theorem dX12_rests_68 : decode cX12_rests 68 = .ok (.iconst 1, 1) := by decide +kernel
theorem dX12_rests_69 : decode cX12_rests 69 = .ok (.iload 4, 2) := by decide +kernel
theorem dX12_rests_71 : decode cX12_rests 71 = .ok (.isub, 1) := by decide +kernel
theorem dX12_rests_72 : decode cX12_rests 72 = .ok (.iload 5, 2) := by decide +kernel
theorem dX12_rests_74 : decode cX12_rests 74 = .ok (.invokevirtual 472, 3) := by decide +kernel
theorem dX12_rests_77 : decode cX12_rests 77 = .ok (.if_icmp .lt 26, 3) := by decide +kernel
theorem dX12_rests_80 : decode cX12_rests 80 = .ok (.iload 4, 2) := by decide +kernel
theorem dX12_rests_82 : decode cX12_rests 82 = .ok (.iload 5, 2) := by decide +kernel
theorem dX12_rests_84 : decode cX12_rests 84 = .ok (.invokestatic 476, 3) := by decide +kernel
theorem dX12_rests_87 : decode cX12_rests 87 = .ok (.iload 4, 2) := by decide +kernel
theorem dX12_rests_89 : decode cX12_rests 89 = .ok (.iconst 1, 1) := by decide +kernel
theorem dX12_rests_90 : decode cX12_rests 90 = .ok (.iload 5, 2) := by decide +kernel
theorem dX12_rests_92 : decode cX12_rests 92 = .ok (.isub, 1) := by decide +kernel
theorem dX12_rests_93 : decode cX12_rests 93 = .ok (.invokestatic 476, 3) := by decide +kernel
theorem dX12_rests_96 : decode cX12_rests 96 = .ok (.if_icmp .lt 7, 3) := by decide +kernel
theorem dX12_rests_99 : decode cX12_rests 99 = .ok (.iconst 1, 1) := by decide +kernel
theorem dX12_rests_100 : decode cX12_rests 100 = .ok (.goto 4, 3) := by decide +kernel
theorem dX12_rests_103 : decode cX12_rests 103 = .ok (.iconst 0, 1) := by decide +kernel
theorem dX12_rests_104 : decode cX12_rests 104 = .ok (.istore 6, 2) := by decide +kernel
theorem dX12_rests_106 : decode cX12_rests 106 = .ok (.iload_n 3, 1) := by decide +kernel
theorem dX12_rests_107 : decode cX12_rests 107 = .ok (.iload 6, 2) := by decide +kernel
theorem dX12_rests_109 : decode cX12_rests 109 = .ok (.ifCond .eq 15, 3) := by decide +kernel
theorem dX12_rests_112 : decode cX12_rests 112 = .ok (.iconst 1, 1) := by decide +kernel
theorem dX12_rests_113 : decode cX12_rests 113 = .ok (.iconst 2, 1) := by decide +kernel
theorem dX12_rests_114 : decode cX12_rests 114 = .ok (.iload 4, 2) := by decide +kernel
theorem dX12_rests_116 : decode cX12_rests 116 = .ok (.imul, 1) := by decide +kernel
theorem dX12_rests_117 : decode cX12_rests 117 = .ok (.iload 5, 2) := by decide +kernel
theorem dX12_rests_119 : decode cX12_rests 119 = .ok (.iadd, 1) := by decide +kernel
theorem dX12_rests_120 : decode cX12_rests 120 = .ok (.ishl, 1) := by decide +kernel
theorem dX12_rests_121 : decode cX12_rests 121 = .ok (.goto 4, 3) := by decide +kernel
theorem dX12_rests_124 : decode cX12_rests 124 = .ok (.iconst 0, 1) := by decide +kernel
theorem dX12_rests_125 : decode cX12_rests 125 = .ok (.ior, 1) := by decide +kernel
theorem dX12_rests_126 : decode cX12_rests 126 = .ok (.istore_n 3, 1) := by decide +kernel
theorem dX12_rests_127 : decode cX12_rests 127 = .ok (.iinc 5 1, 3) := by decide +kernel
theorem dX12_rests_130 : decode cX12_rests 130 = .ok (.goto (-81), 3) := by decide +kernel
theorem dX12_rests_133 : decode cX12_rests 133 = .ok (.iinc 4 1, 3) := by decide +kernel
theorem dX12_rests_136 : decode cX12_rests 136 = .ok (.goto (-96), 3) := by decide +kernel
theorem dX12_rests_139 : decode cX12_rests 139 = .ok (.iload_n 3, 1) := by decide +kernel
theorem dX12_rests_140 : decode cX12_rests 140 = .ok (.ireturn, 1) := by decide +kernel
theorem dX12_nothing_0 : decode cX12_nothing 0 = .ok (.aload_n 0, 1) := by decide +kernel
theorem dX12_nothing_1 : decode cX12_nothing 1 = .ok (.iconst 0, 1) := by decide +kernel
theorem dX12_nothing_2 : decode cX12_nothing 2 = .ok (.putfield 3, 3) := by decide +kernel
theorem dX12_nothing_5 : decode cX12_nothing 5 = .ok (.aload_n 0, 1) := by decide +kernel
theorem dX12_nothing_6 : decode cX12_nothing 6 = .ok (.iload_n 1, 1) := by decide +kernel
theorem dX12_nothing_7 : decode cX12_nothing 7 = .ok (.iconst 0, 1) := by decide +kernel
theorem dX12_nothing_8 : decode cX12_nothing 8 = .ok (.iconst 4, 1) := by decide +kernel
theorem dX12_nothing_9 : decode cX12_nothing 9 = .ok (.invokestatic 87, 3) := by decide +kernel
theorem dX12_nothing_12 : decode cX12_nothing 12 = .ok (.ifCond .ne 7, 3) := by decide +kernel
theorem dX12_nothing_15 : decode cX12_nothing 15 = .ok (.iconst 1, 1) := by decide +kernel
theorem dX12_nothing_16 : decode cX12_nothing 16 = .ok (.goto 4, 3) := by decide +kernel
theorem dX12_nothing_19 : decode cX12_nothing 19 = .ok (.iconst 0, 1) := by decide +kernel
theorem dX12_nothing_20 : decode cX12_nothing 20 = .ok (.iconst 1, 1) := by decide +kernel
theorem dX12_nothing_21 : decode cX12_nothing 21 = .ok (.invokevirtual 266, 3) := by decide +kernel
theorem dX12_nothing_24 : decode cX12_nothing 24 = .ok (.ifCond .eq 5, 3) := by decide +kernel
theorem dX12_nothing_27 : decode cX12_nothing 27 = .ok (.iconst 0, 1) := by decide +kernel
theorem dX12_nothing_28 : decode cX12_nothing 28 = .ok (.ireturn, 1) := by decide +kernel
theorem dX12_nothing_29 : decode cX12_nothing 29 = .ok (.aload_n 0, 1) := by decide +kernel
theorem dX12_nothing_30 : decode cX12_nothing 30 = .ok (.invokevirtual 354, 3) := by decide +kernel
theorem dX12_nothing_33 : decode cX12_nothing 33 = .ok (.istore_n 2, 1) := by decide +kernel
theorem dX12_nothing_34 : decode cX12_nothing 34 = .ok (.sipush 10000, 3) := by decide +kernel
theorem dX12_nothing_37 : decode cX12_nothing 37 = .ok (.istore_n 3, 1) := by decide +kernel
theorem dX12_nothing_38 : decode cX12_nothing 38 = .ok (.iconst 0, 1) := by decide +kernel
theorem dX12_nothing_39 : decode cX12_nothing 39 = .ok (.istore 4, 2) := by decide +kernel
theorem dX12_nothing_41 : decode cX12_nothing 41 = .ok (.iload 4, 2) := by decide +kernel
theorem dX12_nothing_43 : decode cX12_nothing 43 = .ok (.iload_n 1, 1) := by decide +kernel
theorem dX12_nothing_44 : decode cX12_nothing 44 = .ok (.if_icmp .ge 28, 3) := by decide +kernel
theorem dX12_nothing_47 : decode cX12_nothing 47 = .ok (.iload_n 2, 1) := by decide +kernel
theorem dX12_nothing_48 : decode cX12_nothing 48 = .ok (.ifCond .ne 7, 3) := by decide +kernel
theorem dX12_nothing_51 : decode cX12_nothing 51 = .ok (.iconst 0, 1) := by decide +kernel
theorem dX12_nothing_52 : decode cX12_nothing 52 = .ok (.goto 13, 3) := by decide +kernel
theorem dX12_nothing_55 : decode cX12_nothing 55 = .ok (.iload_n 3, 1) := by decide +kernel
theorem dX12_nothing_56 : decode cX12_nothing 56 = .ok (.aload_n 0, 1) := by decide +kernel
theorem dX12_nothing_57 : decode cX12_nothing 57 = .ok (.getfield 13, 3) := by decide +kernel
theorem dX12_nothing_60 : decode cX12_nothing 60 = .ok (.iconst 4, 1) := by decide +kernel
theorem dX12_nothing_61 : decode cX12_nothing 61 = .ok (.iaload, 1) := by decide +kernel
theorem dX12_nothing_62 : decode cX12_nothing 62 = .ok (.imul, 1) := by decide +kernel
theorem dX12_nothing_63 : decode cX12_nothing 63 = .ok (.iload_n 2, 1) := by decide +kernel
theorem dX12_nothing_64 : decode cX12_nothing 64 = .ok (.idiv, 1) := by decide +kernel
theorem dX12_nothing_65 : decode cX12_nothing 65 = .ok (.istore_n 3, 1) := by decide +kernel
theorem dX12_nothing_66 : decode cX12_nothing 66 = .ok (.iinc 4 1, 3) := by decide +kernel
theorem dX12_nothing_69 : decode cX12_nothing 69 = .ok (.goto (-28), 3) := by decide +kernel
theorem dX12_nothing_72 : decode cX12_nothing 72 = .ok (.iload_n 3, 1) := by decide +kernel
theorem dX12_nothing_73 : decode cX12_nothing 73 = .ok (.ireturn, 1) := by decide +kernel
theorem dX12_thatAre_0 : decode cX12_thatAre 0 = .ok (.iconst 0, 1) := by decide +kernel
theorem dX12_thatAre_1 : decode cX12_thatAre 1 = .ok (.istore_n 3, 1) := by decide +kernel
theorem dX12_thatAre_2 : decode cX12_thatAre 2 = .ok (.iconst 0, 1) := by decide +kernel
theorem dX12_thatAre_3 : decode cX12_thatAre 3 = .ok (.istore 4, 2) := by decide +kernel
theorem dX12_thatAre_5 : decode cX12_thatAre 5 = .ok (.iload 4, 2) := by decide +kernel
theorem dX12_thatAre_7 : decode cX12_thatAre 7 = .ok (.aload_n 0, 1) := by decide +kernel
theorem dX12_thatAre_8 : decode cX12_thatAre 8 = .ok (.invokevirtual 83, 3) := by decide +kernel
theorem dX12_thatAre_11 : decode cX12_thatAre 11 = .ok (.if_icmp .ge 31, 3) := by decide +kernel
theorem dX12_thatAre_14 : decode cX12_thatAre 14 = .ok (.iload_n 3, 1) := by decide +kernel
theorem dX12_thatAre_15 : decode cX12_thatAre 15 = .ok (.aload_n 0, 1) := by decide +kernel
theorem dX12_thatAre_16 : decode cX12_thatAre 16 = .ok (.iload 4, 2) := by decide +kernel
theorem dX12_thatAre_18 : decode cX12_thatAre 18 = .ok (.iload_n 1, 1) := by decide +kernel
theorem dX12_thatAre_19 : decode cX12_thatAre 19 = .ok (.invokevirtual 77, 3) := by decide +kernel
theorem dX12_thatAre_22 : decode cX12_thatAre 22 = .ok (.iload_n 2, 1) := by decide +kernel
theorem dX12_thatAre_23 : decode cX12_thatAre 23 = .ok (.if_icmp .ne 10, 3) := by decide +kernel
theorem dX12_thatAre_26 : decode cX12_thatAre 26 = .ok (.iconst 1, 1) := by decide +kernel
theorem dX12_thatAre_27 : decode cX12_thatAre 27 = .ok (.iload 4, 2) := by decide +kernel
theorem dX12_thatAre_29 : decode cX12_thatAre 29 = .ok (.ishl, 1) := by decide +kernel
theorem dX12_thatAre_30 : decode cX12_thatAre 30 = .ok (.goto 4, 3) := by decide +kernel
theorem dX12_thatAre_33 : decode cX12_thatAre 33 = .ok (.iconst 0, 1) := by decide +kernel
theorem dX12_thatAre_34 : decode cX12_thatAre 34 = .ok (.ior, 1) := by decide +kernel
theorem dX12_thatAre_35 : decode cX12_thatAre 35 = .ok (.istore_n 3, 1) := by decide +kernel
theorem dX12_thatAre_36 : decode cX12_thatAre 36 = .ok (.iinc 4 1, 3) := by decide +kernel
theorem dX12_thatAre_39 : decode cX12_thatAre 39 = .ok (.goto (-34), 3) := by decide +kernel
theorem dX12_thatAre_42 : decode cX12_thatAre 42 = .ok (.iload_n 3, 1) := by decide +kernel
theorem dX12_thatAre_43 : decode cX12_thatAre 43 = .ok (.ireturn, 1) := by decide +kernel
theorem dX12_shut_0 : decode cX12_shut 0 = .ok (.aload_n 0, 1) := by decide +kernel
theorem dX12_shut_1 : decode cX12_shut 1 = .ok (.iconst 0, 1) := by decide +kernel
theorem dX12_shut_2 : decode cX12_shut 2 = .ok (.putfield 3, 3) := by decide +kernel
theorem dX12_shut_5 : decode cX12_shut 5 = .ok (.aload_n 0, 1) := by decide +kernel
theorem dX12_shut_6 : decode cX12_shut 6 = .ok (.iconst 2, 1) := by decide +kernel
theorem dX12_shut_7 : decode cX12_shut 7 = .ok (.bipush 31, 2) := by decide +kernel
theorem dX12_shut_9 : decode cX12_shut 9 = .ok (.invokevirtual 479, 3) := by decide +kernel
theorem dX12_shut_12 : decode cX12_shut 12 = .ok (.ireturn, 1) := by decide +kernel
theorem dX12_open_0 : decode cX12_open 0 = .ok (.aload_n 0, 1) := by decide +kernel
theorem dX12_open_1 : decode cX12_open 1 = .ok (.iconst 0, 1) := by decide +kernel
theorem dX12_open_2 : decode cX12_open 2 = .ok (.putfield 3, 3) := by decide +kernel
theorem dX12_open_5 : decode cX12_open 5 = .ok (.aload_n 0, 1) := by decide +kernel
theorem dX12_open_6 : decode cX12_open 6 = .ok (.invokevirtual 421, 3) := by decide +kernel
theorem dX12_open_9 : decode cX12_open 9 = .ok (.ireturn, 1) := by decide +kernel
theorem dX12_knotted_0 : decode cX12_knotted 0 = .ok (.aload_n 0, 1) := by decide +kernel
theorem dX12_knotted_1 : decode cX12_knotted 1 = .ok (.iconst 0, 1) := by decide +kernel
theorem dX12_knotted_2 : decode cX12_knotted 2 = .ok (.putfield 3, 3) := by decide +kernel
theorem dX12_knotted_5 : decode cX12_knotted 5 = .ok (.aload_n 0, 1) := by decide +kernel
theorem dX12_knotted_6 : decode cX12_knotted 6 = .ok (.invokevirtual 451, 3) := by decide +kernel
theorem dX12_knotted_9 : decode cX12_knotted 9 = .ok (.aload_n 0, 1) := by decide +kernel
theorem dX12_knotted_10 : decode cX12_knotted 10 = .ok (.bipush 8, 2) := by decide +kernel
theorem dX12_knotted_12 : decode cX12_knotted 12 = .ok (.iconst (-1), 1) := by decide +kernel
theorem dX12_knotted_13 : decode cX12_knotted 13 = .ok (.invokevirtual 479, 3) := by decide +kernel
theorem dX12_knotted_16 : decode cX12_knotted 16 = .ok (.iconst (-1), 1) := by decide +kernel
theorem dX12_knotted_17 : decode cX12_knotted 17 = .ok (.ixor, 1) := by decide +kernel
theorem dX12_knotted_18 : decode cX12_knotted 18 = .ok (.iand, 1) := by decide +kernel
theorem dX12_knotted_19 : decode cX12_knotted 19 = .ok (.ireturn, 1) := by decide +kernel
theorem dX12_content_0 : decode cX12_content 0 = .ok (.aload_n 0, 1) := by decide +kernel
theorem dX12_content_1 : decode cX12_content 1 = .ok (.iconst 0, 1) := by decide +kernel
theorem dX12_content_2 : decode cX12_content 2 = .ok (.putfield 3, 3) := by decide +kernel
theorem dX12_content_5 : decode cX12_content 5 = .ok (.iconst 0, 1) := by decide +kernel
theorem dX12_content_6 : decode cX12_content 6 = .ok (.istore_n 1, 1) := by decide +kernel
theorem dX12_content_7 : decode cX12_content 7 = .ok (.iconst 0, 1) := by decide +kernel
theorem dX12_content_8 : decode cX12_content 8 = .ok (.istore_n 2, 1) := by decide +kernel
theorem dX12_content_9 : decode cX12_content 9 = .ok (.iload_n 2, 1) := by decide +kernel
theorem dX12_content_10 : decode cX12_content 10 = .ok (.aload_n 0, 1) := by decide +kernel
theorem dX12_content_11 : decode cX12_content 11 = .ok (.invokevirtual 83, 3) := by decide +kernel
theorem dX12_content_14 : decode cX12_content 14 = .ok (.if_icmp .ge 42, 3) := by decide +kernel
theorem dX12_content_17 : decode cX12_content 17 = .ok (.iload_n 1, 1) := by decide +kernel
theorem dX12_content_18 : decode cX12_content 18 = .ok (.aload_n 0, 1) := by decide +kernel
theorem dX12_content_19 : decode cX12_content 19 = .ok (.iload_n 2, 1) := by decide +kernel
theorem dX12_content_20 : decode cX12_content 20 = .ok (.invokevirtual 363, 3) := by decide +kernel
theorem dX12_content_23 : decode cX12_content 23 = .ok (.ifCond .eq 24, 3) := by decide +kernel
theorem dX12_content_26 : decode cX12_content 26 = .ok (.aload_n 0, 1) := by decide +kernel
theorem dX12_content_27 : decode cX12_content 27 = .ok (.iload_n 2, 1) := by decide +kernel
theorem dX12_content_28 : decode cX12_content 28 = .ok (.iconst 5, 1) := by decide +kernel
theorem dX12_content_29 : decode cX12_content 29 = .ok (.invokevirtual 77, 3) := by decide +kernel
theorem dX12_content_32 : decode cX12_content 32 = .ok (.aload_n 0, 1) := by decide +kernel
theorem dX12_content_33 : decode cX12_content 33 = .ok (.iload_n 2, 1) := by decide +kernel
theorem dX12_content_34 : decode cX12_content 34 = .ok (.iconst 4, 1) := by decide +kernel
theorem dX12_content_35 : decode cX12_content 35 = .ok (.invokevirtual 77, 3) := by decide +kernel
theorem dX12_content_38 : decode cX12_content 38 = .ok (.if_icmp .ne 9, 3) := by decide +kernel
theorem dX12_content_41 : decode cX12_content 41 = .ok (.iconst 1, 1) := by decide +kernel
theorem dX12_content_42 : decode cX12_content 42 = .ok (.iload_n 2, 1) := by decide +kernel
theorem dX12_content_43 : decode cX12_content 43 = .ok (.ishl, 1) := by decide +kernel
theorem dX12_content_44 : decode cX12_content 44 = .ok (.goto 4, 3) := by decide +kernel
theorem dX12_content_47 : decode cX12_content 47 = .ok (.iconst 0, 1) := by decide +kernel
theorem dX12_content_48 : decode cX12_content 48 = .ok (.ior, 1) := by decide +kernel
theorem dX12_content_49 : decode cX12_content 49 = .ok (.istore_n 1, 1) := by decide +kernel
theorem dX12_content_50 : decode cX12_content 50 = .ok (.iinc 2 1, 3) := by decide +kernel
theorem dX12_content_53 : decode cX12_content 53 = .ok (.goto (-44), 3) := by decide +kernel
theorem dX12_content_56 : decode cX12_content 56 = .ok (.iload_n 1, 1) := by decide +kernel
theorem dX12_content_57 : decode cX12_content 57 = .ok (.ireturn, 1) := by decide +kernel
theorem dX12_richest_0 : decode cX12_richest 0 = .ok (.aload_n 0, 1) := by decide +kernel
theorem dX12_richest_1 : decode cX12_richest 1 = .ok (.iconst 0, 1) := by decide +kernel
theorem dX12_richest_2 : decode cX12_richest 2 = .ok (.putfield 3, 3) := by decide +kernel
theorem dX12_richest_5 : decode cX12_richest 5 = .ok (.iconst (-1), 1) := by decide +kernel
theorem dX12_richest_6 : decode cX12_richest 6 = .ok (.istore_n 1, 1) := by decide +kernel
theorem dX12_richest_7 : decode cX12_richest 7 = .ok (.iconst 0, 1) := by decide +kernel
theorem dX12_richest_8 : decode cX12_richest 8 = .ok (.istore_n 2, 1) := by decide +kernel
theorem dX12_richest_9 : decode cX12_richest 9 = .ok (.iload_n 2, 1) := by decide +kernel
theorem dX12_richest_10 : decode cX12_richest 10 = .ok (.aload_n 0, 1) := by decide +kernel
theorem dX12_richest_11 : decode cX12_richest 11 = .ok (.invokevirtual 83, 3) := by decide +kernel
theorem dX12_richest_14 : decode cX12_richest 14 = .ok (.if_icmp .ge 49, 3) := by decide +kernel
theorem dX12_richest_17 : decode cX12_richest 17 = .ok (.aload_n 0, 1) := by decide +kernel
theorem dX12_richest_18 : decode cX12_richest 18 = .ok (.iload_n 2, 1) := by decide +kernel
theorem dX12_richest_19 : decode cX12_richest 19 = .ok (.invokevirtual 363, 3) := by decide +kernel
theorem dX12_richest_22 : decode cX12_richest 22 = .ok (.ifCond .eq 35, 3) := by decide +kernel
theorem dX12_richest_25 : decode cX12_richest 25 = .ok (.iload_n 1, 1) := by decide +kernel
theorem dX12_richest_26 : decode cX12_richest 26 = .ok (.iconst (-1), 1) := by decide +kernel
theorem dX12_richest_27 : decode cX12_richest 27 = .ok (.if_icmp .eq 28, 3) := by decide +kernel
theorem dX12_richest_30 : decode cX12_richest 30 = .ok (.aload_n 0, 1) := by decide +kernel
theorem dX12_richest_31 : decode cX12_richest 31 = .ok (.aload_n 0, 1) := by decide +kernel
theorem dX12_richest_32 : decode cX12_richest 32 = .ok (.iload_n 2, 1) := by decide +kernel
theorem dX12_richest_33 : decode cX12_richest 33 = .ok (.iconst 5, 1) := by decide +kernel
theorem dX12_richest_34 : decode cX12_richest 34 = .ok (.invokevirtual 77, 3) := by decide +kernel
theorem dX12_richest_37 : decode cX12_richest 37 = .ok (.iconst 3, 1) := by decide +kernel
theorem dX12_richest_38 : decode cX12_richest 38 = .ok (.invokevirtual 80, 3) := by decide +kernel
theorem dX12_richest_41 : decode cX12_richest 41 = .ok (.aload_n 0, 1) := by decide +kernel
theorem dX12_richest_42 : decode cX12_richest 42 = .ok (.aload_n 0, 1) := by decide +kernel
theorem dX12_richest_43 : decode cX12_richest 43 = .ok (.iload_n 1, 1) := by decide +kernel
theorem dX12_richest_44 : decode cX12_richest 44 = .ok (.iconst 5, 1) := by decide +kernel
theorem dX12_richest_45 : decode cX12_richest 45 = .ok (.invokevirtual 77, 3) := by decide +kernel
theorem dX12_richest_48 : decode cX12_richest 48 = .ok (.iconst 3, 1) := by decide +kernel
theorem dX12_richest_49 : decode cX12_richest 49 = .ok (.invokevirtual 80, 3) := by decide +kernel
theorem dX12_richest_52 : decode cX12_richest 52 = .ok (.if_icmp .le 5, 3) := by decide +kernel
theorem dX12_richest_55 : decode cX12_richest 55 = .ok (.iload_n 2, 1) := by decide +kernel
theorem dX12_richest_56 : decode cX12_richest 56 = .ok (.istore_n 1, 1) := by decide +kernel
theorem dX12_richest_57 : decode cX12_richest 57 = .ok (.iinc 2 1, 3) := by decide +kernel
theorem dX12_richest_60 : decode cX12_richest 60 = .ok (.goto (-51), 3) := by decide +kernel
theorem dX12_richest_63 : decode cX12_richest 63 = .ok (.iload_n 1, 1) := by decide +kernel
theorem dX12_richest_64 : decode cX12_richest 64 = .ok (.ireturn, 1) := by decide +kernel
theorem dX12_oldest_0 : decode cX12_oldest 0 = .ok (.aload_n 0, 1) := by decide +kernel
theorem dX12_oldest_1 : decode cX12_oldest 1 = .ok (.iconst 0, 1) := by decide +kernel
theorem dX12_oldest_2 : decode cX12_oldest 2 = .ok (.putfield 3, 3) := by decide +kernel
theorem dX12_oldest_5 : decode cX12_oldest 5 = .ok (.iconst (-1), 1) := by decide +kernel
theorem dX12_oldest_6 : decode cX12_oldest 6 = .ok (.istore_n 1, 1) := by decide +kernel
theorem dX12_oldest_7 : decode cX12_oldest 7 = .ok (.iconst 0, 1) := by decide +kernel
theorem dX12_oldest_8 : decode cX12_oldest 8 = .ok (.istore_n 2, 1) := by decide +kernel
theorem dX12_oldest_9 : decode cX12_oldest 9 = .ok (.iload_n 2, 1) := by decide +kernel
theorem dX12_oldest_10 : decode cX12_oldest 10 = .ok (.aload_n 0, 1) := by decide +kernel
theorem dX12_oldest_11 : decode cX12_oldest 11 = .ok (.invokevirtual 83, 3) := by decide +kernel
theorem dX12_oldest_14 : decode cX12_oldest 14 = .ok (.if_icmp .ge 39, 3) := by decide +kernel
theorem dX12_oldest_17 : decode cX12_oldest 17 = .ok (.aload_n 0, 1) := by decide +kernel
theorem dX12_oldest_18 : decode cX12_oldest 18 = .ok (.iload_n 2, 1) := by decide +kernel
theorem dX12_oldest_19 : decode cX12_oldest 19 = .ok (.invokevirtual 329, 3) := by decide +kernel
theorem dX12_oldest_22 : decode cX12_oldest 22 = .ok (.ifCond .ne 25, 3) := by decide +kernel
theorem dX12_oldest_25 : decode cX12_oldest 25 = .ok (.iload_n 1, 1) := by decide +kernel
theorem dX12_oldest_26 : decode cX12_oldest 26 = .ok (.iconst (-1), 1) := by decide +kernel
theorem dX12_oldest_27 : decode cX12_oldest 27 = .ok (.if_icmp .eq 18, 3) := by decide +kernel
theorem dX12_oldest_30 : decode cX12_oldest 30 = .ok (.aload_n 0, 1) := by decide +kernel
theorem dX12_oldest_31 : decode cX12_oldest 31 = .ok (.iload_n 2, 1) := by decide +kernel
theorem dX12_oldest_32 : decode cX12_oldest 32 = .ok (.iconst 0, 1) := by decide +kernel
theorem dX12_oldest_33 : decode cX12_oldest 33 = .ok (.invokevirtual 77, 3) := by decide +kernel
theorem dX12_oldest_36 : decode cX12_oldest 36 = .ok (.aload_n 0, 1) := by decide +kernel
theorem dX12_oldest_37 : decode cX12_oldest 37 = .ok (.iload_n 1, 1) := by decide +kernel
theorem dX12_oldest_38 : decode cX12_oldest 38 = .ok (.iconst 0, 1) := by decide +kernel
theorem dX12_oldest_39 : decode cX12_oldest 39 = .ok (.invokevirtual 77, 3) := by decide +kernel
theorem dX12_oldest_42 : decode cX12_oldest 42 = .ok (.if_icmp .le 5, 3) := by decide +kernel
theorem dX12_oldest_45 : decode cX12_oldest 45 = .ok (.iload_n 2, 1) := by decide +kernel
theorem dX12_oldest_46 : decode cX12_oldest 46 = .ok (.istore_n 1, 1) := by decide +kernel
theorem dX12_oldest_47 : decode cX12_oldest 47 = .ok (.iinc 2 1, 3) := by decide +kernel
theorem dX12_oldest_50 : decode cX12_oldest 50 = .ok (.goto (-41), 3) := by decide +kernel
theorem dX12_oldest_53 : decode cX12_oldest 53 = .ok (.iload_n 1, 1) := by decide +kernel
theorem dX12_oldest_54 : decode cX12_oldest 54 = .ok (.ireturn, 1) := by decide +kernel
theorem dX12_twins_0 : decode cX12_twins 0 = .ok (.aload_n 0, 1) := by decide +kernel
theorem dX12_twins_1 : decode cX12_twins 1 = .ok (.iconst 0, 1) := by decide +kernel
theorem dX12_twins_2 : decode cX12_twins 2 = .ok (.putfield 3, 3) := by decide +kernel
theorem dX12_twins_5 : decode cX12_twins 5 = .ok (.iconst 0, 1) := by decide +kernel
theorem dX12_twins_6 : decode cX12_twins 6 = .ok (.istore_n 1, 1) := by decide +kernel
theorem dX12_twins_7 : decode cX12_twins 7 = .ok (.iconst 0, 1) := by decide +kernel
theorem dX12_twins_8 : decode cX12_twins 8 = .ok (.istore_n 2, 1) := by decide +kernel
theorem dX12_twins_9 : decode cX12_twins 9 = .ok (.iload_n 2, 1) := by decide +kernel
theorem dX12_twins_10 : decode cX12_twins 10 = .ok (.aload_n 0, 1) := by decide +kernel
theorem dX12_twins_11 : decode cX12_twins 11 = .ok (.invokevirtual 83, 3) := by decide +kernel
theorem dX12_twins_14 : decode cX12_twins 14 = .ok (.if_icmp .ge 53, 3) := by decide +kernel
theorem dX12_twins_17 : decode cX12_twins 17 = .ok (.iconst 0, 1) := by decide +kernel
theorem dX12_twins_18 : decode cX12_twins 18 = .ok (.istore_n 3, 1) := by decide +kernel
theorem dX12_twins_19 : decode cX12_twins 19 = .ok (.iload_n 3, 1) := by decide +kernel
theorem dX12_twins_20 : decode cX12_twins 20 = .ok (.iload_n 2, 1) := by decide +kernel
theorem dX12_twins_21 : decode cX12_twins 21 = .ok (.if_icmp .ge 40, 3) := by decide +kernel
theorem dX12_twins_24 : decode cX12_twins 24 = .ok (.iload_n 1, 1) := by decide +kernel
theorem dX12_twins_25 : decode cX12_twins 25 = .ok (.aload_n 0, 1) := by decide +kernel
theorem dX12_twins_26 : decode cX12_twins 26 = .ok (.iload_n 2, 1) := by decide +kernel
theorem dX12_twins_27 : decode cX12_twins 27 = .ok (.invokevirtual 363, 3) := by decide +kernel
theorem dX12_twins_30 : decode cX12_twins 30 = .ok (.ifCond .eq 22, 3) := by decide +kernel
theorem dX12_twins_33 : decode cX12_twins 33 = .ok (.aload_n 0, 1) := by decide +kernel
theorem dX12_twins_34 : decode cX12_twins 34 = .ok (.iload_n 2, 1) := by decide +kernel
theorem dX12_twins_35 : decode cX12_twins 35 = .ok (.iconst 5, 1) := by decide +kernel
theorem dX12_twins_36 : decode cX12_twins 36 = .ok (.invokevirtual 77, 3) := by decide +kernel
theorem dX12_twins_39 : decode cX12_twins 39 = .ok (.aload_n 0, 1) := by decide +kernel
theorem dX12_twins_40 : decode cX12_twins 40 = .ok (.iload_n 3, 1) := by decide +kernel
theorem dX12_twins_41 : decode cX12_twins 41 = .ok (.iconst 5, 1) := by decide +kernel
theorem dX12_twins_42 : decode cX12_twins 42 = .ok (.invokevirtual 77, 3) := by decide +kernel
theorem dX12_twins_45 : decode cX12_twins 45 = .ok (.if_icmp .ne 7, 3) := by decide +kernel
theorem dX12_twins_48 : decode cX12_twins 48 = .ok (.iconst 1, 1) := by decide +kernel
theorem dX12_twins_49 : decode cX12_twins 49 = .ok (.goto 4, 3) := by decide +kernel
theorem dX12_twins_52 : decode cX12_twins 52 = .ok (.iconst 0, 1) := by decide +kernel
theorem dX12_twins_53 : decode cX12_twins 53 = .ok (.iadd, 1) := by decide +kernel
theorem dX12_twins_54 : decode cX12_twins 54 = .ok (.istore_n 1, 1) := by decide +kernel
theorem dX12_twins_55 : decode cX12_twins 55 = .ok (.iinc 3 1, 3) := by decide +kernel
theorem dX12_twins_58 : decode cX12_twins 58 = .ok (.goto (-39), 3) := by decide +kernel
theorem dX12_twins_61 : decode cX12_twins 61 = .ok (.iinc 2 1, 3) := by decide +kernel
theorem dX12_twins_64 : decode cX12_twins 64 = .ok (.goto (-55), 3) := by decide +kernel
theorem dX12_twins_67 : decode cX12_twins 67 = .ok (.iload_n 1, 1) := by decide +kernel
theorem dX12_twins_68 : decode cX12_twins 68 = .ok (.ireturn, 1) := by decide +kernel
theorem dX12_trial_0 : decode cX12_trial 0 = .ok (.aload_n 0, 1) := by decide +kernel
theorem dX12_trial_1 : decode cX12_trial 1 = .ok (.iconst 0, 1) := by decide +kernel
theorem dX12_trial_2 : decode cX12_trial 2 = .ok (.putfield 3, 3) := by decide +kernel
theorem dX12_trial_5 : decode cX12_trial 5 = .ok (.aload_n 0, 1) := by decide +kernel
theorem dX12_trial_6 : decode cX12_trial 6 = .ok (.iload_n 1, 1) := by decide +kernel
theorem dX12_trial_7 : decode cX12_trial 7 = .ok (.invokestatic 424, 3) := by decide +kernel
theorem dX12_trial_10 : decode cX12_trial 10 = .ok (.iconst 1, 1) := by decide +kernel
theorem dX12_trial_11 : decode cX12_trial 11 = .ok (.invokevirtual 266, 3) := by decide +kernel
theorem dX12_trial_14 : decode cX12_trial 14 = .ok (.ifCond .eq 5, 3) := by decide +kernel
theorem dX12_trial_17 : decode cX12_trial 17 = .ok (.iconst 0, 1) := by decide +kernel
theorem dX12_trial_18 : decode cX12_trial 18 = .ok (.ireturn, 1) := by decide +kernel
theorem dX12_trial_19 : decode cX12_trial 19 = .ok (.aload_n 0, 1) := by decide +kernel
theorem dX12_trial_20 : decode cX12_trial 20 = .ok (.invokevirtual 415, 3) := by decide +kernel
theorem dX12_trial_23 : decode cX12_trial 23 = .ok (.aload_n 0, 1) := by decide +kernel
theorem dX12_trial_24 : decode cX12_trial 24 = .ok (.iload_n 1, 1) := by decide +kernel
theorem dX12_trial_25 : decode cX12_trial 25 = .ok (.iconst 0, 1) := by decide +kernel
theorem dX12_trial_26 : decode cX12_trial 26 = .ok (.invokevirtual 347, 3) := by decide +kernel
theorem dX12_trial_29 : decode cX12_trial 29 = .ok (.pop, 1) := by decide +kernel
theorem dX12_trial_30 : decode cX12_trial 30 = .ok (.iload_n 2, 1) := by decide +kernel
theorem dX12_trial_31 : decode cX12_trial 31 = .ok (.ifCond .eq 10, 3) := by decide +kernel
theorem dX12_trial_34 : decode cX12_trial 34 = .ok (.aload_n 0, 1) := by decide +kernel
theorem dX12_trial_35 : decode cX12_trial 35 = .ok (.invokevirtual 290, 3) := by decide +kernel
theorem dX12_trial_38 : decode cX12_trial 38 = .ok (.goto 7, 3) := by decide +kernel
theorem dX12_trial_41 : decode cX12_trial 41 = .ok (.aload_n 0, 1) := by decide +kernel
theorem dX12_trial_42 : decode cX12_trial 42 = .ok (.invokevirtual 421, 3) := by decide +kernel
theorem dX12_trial_45 : decode cX12_trial 45 = .ok (.istore_n 3, 1) := by decide +kernel
theorem dX12_trial_46 : decode cX12_trial 46 = .ok (.aload_n 0, 1) := by decide +kernel
theorem dX12_trial_47 : decode cX12_trial 47 = .ok (.invokevirtual 418, 3) := by decide +kernel
theorem dX12_trial_50 : decode cX12_trial 50 = .ok (.iload_n 3, 1) := by decide +kernel
theorem dX12_trial_51 : decode cX12_trial 51 = .ok (.ireturn, 1) := by decide +kernel
theorem dX12_span_0 : decode cX12_span 0 = .ok (.aload_n 0, 1) := by decide +kernel
theorem dX12_span_1 : decode cX12_span 1 = .ok (.iconst 0, 1) := by decide +kernel
theorem dX12_span_2 : decode cX12_span 2 = .ok (.putfield 3, 3) := by decide +kernel
theorem dX12_span_5 : decode cX12_span 5 = .ok (.aload_n 0, 1) := by decide +kernel
theorem dX12_span_6 : decode cX12_span 6 = .ok (.iload_n 1, 1) := by decide +kernel
theorem dX12_span_7 : decode cX12_span 7 = .ok (.invokestatic 424, 3) := by decide +kernel
theorem dX12_span_10 : decode cX12_span 10 = .ok (.iconst 1, 1) := by decide +kernel
theorem dX12_span_11 : decode cX12_span 11 = .ok (.invokevirtual 266, 3) := by decide +kernel
theorem dX12_span_14 : decode cX12_span 14 = .ok (.ifCond .eq 5, 3) := by decide +kernel
theorem dX12_span_17 : decode cX12_span 17 = .ok (.iconst 0, 1) := by decide +kernel
theorem dX12_span_18 : decode cX12_span 18 = .ok (.ireturn, 1) := by decide +kernel
theorem dX12_span_19 : decode cX12_span 19 = .ok (.aload_n 0, 1) := by decide +kernel
theorem dX12_span_20 : decode cX12_span 20 = .ok (.invokevirtual 415, 3) := by decide +kernel
theorem dX12_span_23 : decode cX12_span 23 = .ok (.iconst (-1), 1) := by decide +kernel
theorem dX12_span_24 : decode cX12_span 24 = .ok (.istore_n 3, 1) := by decide +kernel
theorem dX12_span_25 : decode cX12_span 25 = .ok (.iconst 1, 1) := by decide +kernel
theorem dX12_span_26 : decode cX12_span 26 = .ok (.istore 4, 2) := by decide +kernel
theorem dX12_span_28 : decode cX12_span 28 = .ok (.iload 4, 2) := by decide +kernel
theorem dX12_span_30 : decode cX12_span 30 = .ok (.bipush 6, 2) := by decide +kernel
theorem dX12_span_32 : decode cX12_span 32 = .ok (.if_icmp .gt 67, 3) := by decide +kernel
theorem dX12_span_35 : decode cX12_span 35 = .ok (.aload_n 0, 1) := by decide +kernel
theorem dX12_span_36 : decode cX12_span 36 = .ok (.getfield 13, 3) := by decide +kernel
theorem dX12_span_39 : decode cX12_span 39 = .ok (.bipush 6, 2) := by decide +kernel
theorem dX12_span_41 : decode cX12_span 41 = .ok (.iload 4, 2) := by decide +kernel
theorem dX12_span_43 : decode cX12_span 43 = .ok (.iastore, 1) := by decide +kernel
theorem dX12_span_44 : decode cX12_span 44 = .ok (.aload_n 0, 1) := by decide +kernel
theorem dX12_span_45 : decode cX12_span 45 = .ok (.iload_n 1, 1) := by decide +kernel
theorem dX12_span_46 : decode cX12_span 46 = .ok (.iconst 0, 1) := by decide +kernel
theorem dX12_span_47 : decode cX12_span 47 = .ok (.invokevirtual 347, 3) := by decide +kernel
theorem dX12_span_50 : decode cX12_span 50 = .ok (.pop, 1) := by decide +kernel
theorem dX12_span_51 : decode cX12_span 51 = .ok (.aload_n 0, 1) := by decide +kernel
theorem dX12_span_52 : decode cX12_span 52 = .ok (.invokevirtual 421, 3) := by decide +kernel
theorem dX12_span_55 : decode cX12_span 55 = .ok (.invokestatic 269, 3) := by decide +kernel
theorem dX12_span_58 : decode cX12_span 58 = .ok (.istore 5, 2) := by decide +kernel
theorem dX12_span_60 : decode cX12_span 60 = .ok (.aload_n 0, 1) := by decide +kernel
theorem dX12_span_61 : decode cX12_span 61 = .ok (.invokevirtual 418, 3) := by decide +kernel
theorem dX12_span_64 : decode cX12_span 64 = .ok (.iload_n 3, 1) := by decide +kernel
theorem dX12_span_65 : decode cX12_span 65 = .ok (.ifCond .ge 8, 3) := by decide +kernel
theorem dX12_span_68 : decode cX12_span 68 = .ok (.iload 5, 2) := by decide +kernel
theorem dX12_span_70 : decode cX12_span 70 = .ok (.goto 22, 3) := by decide +kernel
theorem dX12_span_73 : decode cX12_span 73 = .ok (.iload_n 2, 1) := by decide +kernel
theorem dX12_span_74 : decode cX12_span 74 = .ok (.ifCond .eq 12, 3) := by decide +kernel
theorem dX12_span_77 : decode cX12_span 77 = .ok (.iload_n 3, 1) := by decide +kernel
theorem dX12_span_78 : decode cX12_span 78 = .ok (.iload 5, 2) := by decide +kernel
theorem dX12_span_80 : decode cX12_span 80 = .ok (.invokestatic 285, 3) := by decide +kernel
theorem dX12_span_83 : decode cX12_span 83 = .ok (.goto 9, 3) := by decide +kernel
theorem dX12_span_86 : decode cX12_span 86 = .ok (.iload_n 3, 1) := by decide +kernel
theorem dX12_span_87 : decode cX12_span 87 = .ok (.iload 5, 2) := by decide +kernel
theorem dX12_span_89 : decode cX12_span 89 = .ok (.invokestatic 311, 3) := by decide +kernel
theorem dX12_span_92 : decode cX12_span 92 = .ok (.istore_n 3, 1) := by decide +kernel
theorem dX12_span_93 : decode cX12_span 93 = .ok (.iinc 4 1, 3) := by decide +kernel
theorem dX12_span_96 : decode cX12_span 96 = .ok (.goto (-68), 3) := by decide +kernel
theorem dX12_span_99 : decode cX12_span 99 = .ok (.iload_n 3, 1) := by decide +kernel
theorem dX12_span_100 : decode cX12_span 100 = .ok (.ireturn, 1) := by decide +kernel
theorem dX12_ofLog_0 : decode cX12_ofLog 0 = .ok (.aload_n 0, 1) := by decide +kernel
theorem dX12_ofLog_1 : decode cX12_ofLog 1 = .ok (.getfield 13, 3) := by decide +kernel
theorem dX12_ofLog_4 : decode cX12_ofLog 4 = .ok (.bipush 115, 2) := by decide +kernel
theorem dX12_ofLog_6 : decode cX12_ofLog 6 = .ok (.iconst 5, 1) := by decide +kernel
theorem dX12_ofLog_7 : decode cX12_ofLog 7 = .ok (.iload_n 1, 1) := by decide +kernel
theorem dX12_ofLog_8 : decode cX12_ofLog 8 = .ok (.imul, 1) := by decide +kernel
theorem dX12_ofLog_9 : decode cX12_ofLog 9 = .ok (.iadd, 1) := by decide +kernel
theorem dX12_ofLog_10 : decode cX12_ofLog 10 = .ok (.iload_n 2, 1) := by decide +kernel
theorem dX12_ofLog_11 : decode cX12_ofLog 11 = .ok (.iadd, 1) := by decide +kernel
theorem dX12_ofLog_12 : decode cX12_ofLog 12 = .ok (.iaload, 1) := by decide +kernel
theorem dX12_ofLog_13 : decode cX12_ofLog 13 = .ok (.ireturn, 1) := by decide +kernel
theorem dX12_led_0 : decode cX12_led 0 = .ok (.aload_n 0, 1) := by decide +kernel
theorem dX12_led_1 : decode cX12_led 1 = .ok (.iconst 0, 1) := by decide +kernel
theorem dX12_led_2 : decode cX12_led 2 = .ok (.putfield 3, 3) := by decide +kernel
theorem dX12_led_5 : decode cX12_led 5 = .ok (.aload_n 0, 1) := by decide +kernel
theorem dX12_led_6 : decode cX12_led 6 = .ok (.aload_n 0, 1) := by decide +kernel
theorem dX12_led_7 : decode cX12_led 7 = .ok (.iload_n 1, 1) := by decide +kernel
theorem dX12_led_8 : decode cX12_led 8 = .ok (.invokevirtual 299, 3) := by decide +kernel
theorem dX12_led_11 : decode cX12_led 11 = .ok (.iconst 1, 1) := by decide +kernel
theorem dX12_led_12 : decode cX12_led 12 = .ok (.invokevirtual 266, 3) := by decide +kernel
theorem dX12_led_15 : decode cX12_led 15 = .ok (.ifCond .eq 5, 3) := by decide +kernel
theorem dX12_led_18 : decode cX12_led 18 = .ok (.iconst 0, 1) := by decide +kernel
theorem dX12_led_19 : decode cX12_led 19 = .ok (.ireturn, 1) := by decide +kernel
theorem dX12_led_20 : decode cX12_led 20 = .ok (.iconst 0, 1) := by decide +kernel
theorem dX12_led_21 : decode cX12_led 21 = .ok (.istore_n 3, 1) := by decide +kernel
theorem dX12_led_22 : decode cX12_led 22 = .ok (.iload_n 3, 1) := by decide +kernel
theorem dX12_led_23 : decode cX12_led 23 = .ok (.aload_n 0, 1) := by decide +kernel
theorem dX12_led_24 : decode cX12_led 24 = .ok (.getfield 13, 3) := by decide +kernel
theorem dX12_led_27 : decode cX12_led 27 = .ok (.iconst 5, 1) := by decide +kernel
theorem dX12_led_28 : decode cX12_led 28 = .ok (.iaload, 1) := by decide +kernel
theorem dX12_led_29 : decode cX12_led 29 = .ok (.if_icmp .ge 34, 3) := by decide +kernel
theorem dX12_led_32 : decode cX12_led 32 = .ok (.aload_n 0, 1) := by decide +kernel
theorem dX12_led_33 : decode cX12_led 33 = .ok (.iload_n 3, 1) := by decide +kernel
theorem dX12_led_34 : decode cX12_led 34 = .ok (.iconst 1, 1) := by decide +kernel
theorem dX12_led_35 : decode cX12_led 35 = .ok (.invokevirtual 482, 3) := by decide +kernel
theorem dX12_led_38 : decode cX12_led 38 = .ok (.iload_n 1, 1) := by decide +kernel
theorem dX12_led_39 : decode cX12_led 39 = .ok (.if_icmp .ne 18, 3) := by decide +kernel
theorem dX12_led_42 : decode cX12_led 42 = .ok (.aload_n 0, 1) := by decide +kernel
theorem dX12_led_43 : decode cX12_led 43 = .ok (.iload_n 3, 1) := by decide +kernel
theorem dX12_led_44 : decode cX12_led 44 = .ok (.iload_n 2, 1) := by decide +kernel
theorem dX12_led_45 : decode cX12_led 45 = .ok (.ifCond .eq 7, 3) := by decide +kernel
theorem dX12_led_48 : decode cX12_led 48 = .ok (.iconst 2, 1) := by decide +kernel
theorem dX12_led_49 : decode cX12_led 49 = .ok (.goto 4, 3) := by decide +kernel
theorem dX12_led_52 : decode cX12_led 52 = .ok (.iconst 0, 1) := by decide +kernel
theorem dX12_led_53 : decode cX12_led 53 = .ok (.invokevirtual 482, 3) := by decide +kernel
theorem dX12_led_56 : decode cX12_led 56 = .ok (.ireturn, 1) := by decide +kernel
theorem dX12_led_57 : decode cX12_led 57 = .ok (.iinc 3 1, 3) := by decide +kernel
theorem dX12_led_60 : decode cX12_led 60 = .ok (.goto (-38), 3) := by decide +kernel
theorem dX12_led_63 : decode cX12_led 63 = .ok (.iconst (-1), 1) := by decide +kernel
theorem dX12_led_64 : decode cX12_led 64 = .ok (.ireturn, 1) := by decide +kernel
theorem dX12_log_0 : decode cX12_log 0 = .ok (.aload_n 0, 1) := by decide +kernel
theorem dX12_log_1 : decode cX12_log 1 = .ok (.iconst 0, 1) := by decide +kernel
theorem dX12_log_2 : decode cX12_log 2 = .ok (.putfield 3, 3) := by decide +kernel
theorem dX12_log_5 : decode cX12_log 5 = .ok (.aload_n 0, 1) := by decide +kernel
theorem dX12_log_6 : decode cX12_log 6 = .ok (.iload_n 2, 1) := by decide +kernel
theorem dX12_log_7 : decode cX12_log 7 = .ok (.iconst 0, 1) := by decide +kernel
theorem dX12_log_8 : decode cX12_log 8 = .ok (.iconst 4, 1) := by decide +kernel
theorem dX12_log_9 : decode cX12_log 9 = .ok (.invokestatic 87, 3) := by decide +kernel
theorem dX12_log_12 : decode cX12_log 12 = .ok (.ifCond .ne 7, 3) := by decide +kernel
theorem dX12_log_15 : decode cX12_log 15 = .ok (.iconst 1, 1) := by decide +kernel
theorem dX12_log_16 : decode cX12_log 16 = .ok (.goto 4, 3) := by decide +kernel
theorem dX12_log_19 : decode cX12_log 19 = .ok (.iconst 0, 1) := by decide +kernel
theorem dX12_log_20 : decode cX12_log 20 = .ok (.iconst 1, 1) := by decide +kernel
theorem dX12_log_21 : decode cX12_log 21 = .ok (.invokevirtual 266, 3) := by decide +kernel
theorem dX12_log_24 : decode cX12_log 24 = .ok (.ifCond .eq 5, 3) := by decide +kernel
theorem dX12_log_27 : decode cX12_log 27 = .ok (.iconst 0, 1) := by decide +kernel
theorem dX12_log_28 : decode cX12_log 28 = .ok (.ireturn, 1) := by decide +kernel
theorem dX12_log_29 : decode cX12_log 29 = .ok (.iload_n 1, 1) := by decide +kernel
theorem dX12_log_30 : decode cX12_log 30 = .ok (.iconst 0, 1) := by decide +kernel
theorem dX12_log_31 : decode cX12_log 31 = .ok (.aload_n 0, 1) := by decide +kernel
theorem dX12_log_32 : decode cX12_log 32 = .ok (.getfield 13, 3) := by decide +kernel
theorem dX12_log_35 : decode cX12_log 35 = .ok (.iconst 5, 1) := by decide +kernel
theorem dX12_log_36 : decode cX12_log 36 = .ok (.iaload, 1) := by decide +kernel
theorem dX12_log_37 : decode cX12_log 37 = .ok (.iconst 1, 1) := by decide +kernel
theorem dX12_log_38 : decode cX12_log 38 = .ok (.isub, 1) := by decide +kernel
theorem dX12_log_39 : decode cX12_log 39 = .ok (.invokestatic 87, 3) := by decide +kernel
theorem dX12_log_42 : decode cX12_log 42 = .ok (.ifCond .eq 12, 3) := by decide +kernel
theorem dX12_log_45 : decode cX12_log 45 = .ok (.aload_n 0, 1) := by decide +kernel
theorem dX12_log_46 : decode cX12_log 46 = .ok (.iload_n 1, 1) := by decide +kernel
theorem dX12_log_47 : decode cX12_log 47 = .ok (.iload_n 2, 1) := by decide +kernel
theorem dX12_log_48 : decode cX12_log 48 = .ok (.invokevirtual 482, 3) := by decide +kernel
theorem dX12_log_51 : decode cX12_log 51 = .ok (.goto 4, 3) := by decide +kernel
theorem dX12_log_54 : decode cX12_log 54 = .ok (.iconst (-1), 1) := by decide +kernel
theorem dX12_log_55 : decode cX12_log 55 = .ok (.ireturn, 1) := by decide +kernel
theorem dX12_seed_0 : decode cX12_seed 0 = .ok (.aload_n 0, 1) := by decide +kernel
theorem dX12_seed_1 : decode cX12_seed 1 = .ok (.iconst 0, 1) := by decide +kernel
theorem dX12_seed_2 : decode cX12_seed 2 = .ok (.putfield 3, 3) := by decide +kernel
theorem dX12_seed_5 : decode cX12_seed 5 = .ok (.aload_n 0, 1) := by decide +kernel
theorem dX12_seed_6 : decode cX12_seed 6 = .ok (.getfield 13, 3) := by decide +kernel
theorem dX12_seed_9 : decode cX12_seed 9 = .ok (.bipush 6, 2) := by decide +kernel
theorem dX12_seed_11 : decode cX12_seed 11 = .ok (.iaload, 1) := by decide +kernel
theorem dX12_seed_12 : decode cX12_seed 12 = .ok (.istore_n 2, 1) := by decide +kernel
theorem dX12_seed_13 : decode cX12_seed 13 = .ok (.aload_n 0, 1) := by decide +kernel
theorem dX12_seed_14 : decode cX12_seed 14 = .ok (.getfield 13, 3) := by decide +kernel
theorem dX12_seed_17 : decode cX12_seed 17 = .ok (.bipush 6, 2) := by decide +kernel
theorem dX12_seed_19 : decode cX12_seed 19 = .ok (.iload_n 1, 1) := by decide +kernel
theorem dX12_seed_20 : decode cX12_seed 20 = .ok (.iastore, 1) := by decide +kernel
theorem dX12_seed_21 : decode cX12_seed 21 = .ok (.iload_n 2, 1) := by decide +kernel
theorem dX12_seed_22 : decode cX12_seed 22 = .ok (.ireturn, 1) := by decide +kernel
theorem dX12_count_0 : decode cX12_count 0 = .ok (.aload_n 0, 1) := by decide +kernel
theorem dX12_count_1 : decode cX12_count 1 = .ok (.iconst 0, 1) := by decide +kernel
theorem dX12_count_2 : decode cX12_count 2 = .ok (.putfield 3, 3) := by decide +kernel
theorem dX12_count_5 : decode cX12_count 5 = .ok (.iconst 0, 1) := by decide +kernel
theorem dX12_count_6 : decode cX12_count 6 = .ok (.istore_n 2, 1) := by decide +kernel
theorem dX12_count_7 : decode cX12_count 7 = .ok (.iconst 0, 1) := by decide +kernel
theorem dX12_count_8 : decode cX12_count 8 = .ok (.istore_n 3, 1) := by decide +kernel
theorem dX12_count_9 : decode cX12_count 9 = .ok (.iconst 0, 1) := by decide +kernel
theorem dX12_count_10 : decode cX12_count 10 = .ok (.istore 4, 2) := by decide +kernel
theorem dX12_count_12 : decode cX12_count 12 = .ok (.iload 4, 2) := by decide +kernel
theorem dX12_count_14 : decode cX12_count 14 = .ok (.bipush 8, 2) := by decide +kernel
theorem dX12_count_16 : decode cX12_count 16 = .ok (.if_icmp .ge 19, 3) := by decide +kernel
theorem dX12_count_19 : decode cX12_count 19 = .ok (.iload_n 2, 1) := by decide +kernel
theorem dX12_count_20 : decode cX12_count 20 = .ok (.aload_n 0, 1) := by decide +kernel
theorem dX12_count_21 : decode cX12_count 21 = .ok (.iload 4, 2) := by decide +kernel
theorem dX12_count_23 : decode cX12_count 23 = .ok (.iconst 0, 1) := by decide +kernel
theorem dX12_count_24 : decode cX12_count 24 = .ok (.invokevirtual 80, 3) := by decide +kernel
theorem dX12_count_27 : decode cX12_count 27 = .ok (.iadd, 1) := by decide +kernel
theorem dX12_count_28 : decode cX12_count 28 = .ok (.istore_n 2, 1) := by decide +kernel
theorem dX12_count_29 : decode cX12_count 29 = .ok (.iinc 4 1, 3) := by decide +kernel
theorem dX12_count_32 : decode cX12_count 32 = .ok (.goto (-20), 3) := by decide +kernel
theorem dX12_count_35 : decode cX12_count 35 = .ok (.iconst 0, 1) := by decide +kernel
theorem dX12_count_36 : decode cX12_count 36 = .ok (.istore 4, 2) := by decide +kernel
theorem dX12_count_38 : decode cX12_count 38 = .ok (.iload 4, 2) := by decide +kernel
theorem dX12_count_40 : decode cX12_count 40 = .ok (.aload_n 0, 1) := by decide +kernel
theorem dX12_count_41 : decode cX12_count 41 = .ok (.invokevirtual 83, 3) := by decide +kernel
theorem dX12_count_44 : decode cX12_count 44 = .ok (.if_icmp .ge 22, 3) := by decide +kernel
theorem dX12_count_47 : decode cX12_count 47 = .ok (.iload_n 3, 1) := by decide +kernel
theorem dX12_count_48 : decode cX12_count 48 = .ok (.aload_n 0, 1) := by decide +kernel
theorem dX12_count_49 : decode cX12_count 49 = .ok (.iload 4, 2) := by decide +kernel
theorem dX12_count_51 : decode cX12_count 51 = .ok (.iconst 2, 1) := by decide +kernel
theorem dX12_count_52 : decode cX12_count 52 = .ok (.invokevirtual 77, 3) := by decide +kernel
theorem dX12_count_55 : decode cX12_count 55 = .ok (.invokestatic 269, 3) := by decide +kernel
theorem dX12_count_58 : decode cX12_count 58 = .ok (.iadd, 1) := by decide +kernel
theorem dX12_count_59 : decode cX12_count 59 = .ok (.istore_n 3, 1) := by decide +kernel
theorem dX12_count_60 : decode cX12_count 60 = .ok (.iinc 4 1, 3) := by decide +kernel
theorem dX12_count_63 : decode cX12_count 63 = .ok (.goto (-25), 3) := by decide +kernel
theorem dX12_count_66 : decode cX12_count 66 = .ok (.iload_n 1, 1) := by decide +kernel
theorem dX12_count_67 : decode cX12_count 67 = .ok (.tableswitch 89 2 9 #[45, 89, 89, 68, 70, 75, 77, 84], 45) := by decide +kernel
theorem dX12_count_112 : decode cX12_count 112 = .ok (.aload_n 0, 1) := by decide +kernel
theorem dX12_count_113 : decode cX12_count 113 = .ok (.getfield 13, 3) := by decide +kernel
theorem dX12_count_116 : decode cX12_count 116 = .ok (.iconst 2, 1) := by decide +kernel
theorem dX12_count_117 : decode cX12_count 117 = .ok (.iaload, 1) := by decide +kernel
theorem dX12_count_118 : decode cX12_count 118 = .ok (.iconst 1, 1) := by decide +kernel
theorem dX12_count_119 : decode cX12_count 119 = .ok (.if_icmp .ne 14, 3) := by decide +kernel
theorem dX12_count_122 : decode cX12_count 122 = .ok (.aload_n 0, 1) := by decide +kernel
theorem dX12_count_123 : decode cX12_count 123 = .ok (.getfield 13, 3) := by decide +kernel
theorem dX12_count_126 : decode cX12_count 126 = .ok (.sipush 415, 3) := by decide +kernel
theorem dX12_count_129 : decode cX12_count 129 = .ok (.iaload, 1) := by decide +kernel
theorem dX12_count_130 : decode cX12_count 130 = .ok (.goto 4, 3) := by decide +kernel
theorem dX12_count_133 : decode cX12_count 133 = .ok (.iconst (-1), 1) := by decide +kernel
theorem dX12_count_134 : decode cX12_count 134 = .ok (.ireturn, 1) := by decide +kernel
theorem dX12_count_135 : decode cX12_count 135 = .ok (.iload_n 2, 1) := by decide +kernel
theorem dX12_count_136 : decode cX12_count 136 = .ok (.ireturn, 1) := by decide +kernel
theorem dX12_count_137 : decode cX12_count 137 = .ok (.aload_n 0, 1) := by decide +kernel
theorem dX12_count_138 : decode cX12_count 138 = .ok (.invokevirtual 290, 3) := by decide +kernel
theorem dX12_count_141 : decode cX12_count 141 = .ok (.ireturn, 1) := by decide +kernel
theorem dX12_count_142 : decode cX12_count 142 = .ok (.iload_n 3, 1) := by decide +kernel
theorem dX12_count_143 : decode cX12_count 143 = .ok (.ireturn, 1) := by decide +kernel
theorem dX12_count_144 : decode cX12_count 144 = .ok (.aload_n 0, 1) := by decide +kernel
theorem dX12_count_145 : decode cX12_count 145 = .ok (.getfield 13, 3) := by decide +kernel
theorem dX12_count_148 : decode cX12_count 148 = .ok (.iconst 5, 1) := by decide +kernel
theorem dX12_count_149 : decode cX12_count 149 = .ok (.iaload, 1) := by decide +kernel
theorem dX12_count_150 : decode cX12_count 150 = .ok (.ireturn, 1) := by decide +kernel
theorem dX12_count_151 : decode cX12_count 151 = .ok (.aload_n 0, 1) := by decide +kernel
theorem dX12_count_152 : decode cX12_count 152 = .ok (.getfield 71, 3) := by decide +kernel
theorem dX12_count_155 : decode cX12_count 155 = .ok (.ireturn, 1) := by decide +kernel
theorem dX12_count_156 : decode cX12_count 156 = .ok (.iload_n 1, 1) := by decide +kernel
theorem dX12_count_157 : decode cX12_count 157 = .ok (.iconst 0, 1) := by decide +kernel
theorem dX12_count_158 : decode cX12_count 158 = .ok (.iconst 4, 1) := by decide +kernel
theorem dX12_count_159 : decode cX12_count 159 = .ok (.invokestatic 87, 3) := by decide +kernel
theorem dX12_count_162 : decode cX12_count 162 = .ok (.ifCond .eq 12, 3) := by decide +kernel
theorem dX12_count_165 : decode cX12_count 165 = .ok (.aload_n 0, 1) := by decide +kernel
theorem dX12_count_166 : decode cX12_count 166 = .ok (.getfield 13, 3) := by decide +kernel
theorem dX12_count_169 : decode cX12_count 169 = .ok (.iload_n 1, 1) := by decide +kernel
theorem dX12_count_170 : decode cX12_count 170 = .ok (.iaload, 1) := by decide +kernel
theorem dX12_count_171 : decode cX12_count 171 = .ok (.goto 4, 3) := by decide +kernel
theorem dX12_count_174 : decode cX12_count 174 = .ok (.iconst (-1), 1) := by decide +kernel
theorem dX12_count_175 : decode cX12_count 175 = .ok (.ireturn, 1) := by decide +kernel
theorem dJ6_numberOfTrailingZeros_0f7a4_0 : decode cJ6_numberOfTrailingZeros_0f7a4 0 = .ok (.iload_n 0, 1) := by decide +kernel
theorem dJ6_numberOfTrailingZeros_0f7a4_1 : decode cJ6_numberOfTrailingZeros_0f7a4 1 = .ok (.iconst (-1), 1) := by decide +kernel
theorem dJ6_numberOfTrailingZeros_0f7a4_2 : decode cJ6_numberOfTrailingZeros_0f7a4 2 = .ok (.ixor, 1) := by decide +kernel
theorem dJ6_numberOfTrailingZeros_0f7a4_3 : decode cJ6_numberOfTrailingZeros_0f7a4 3 = .ok (.iload_n 0, 1) := by decide +kernel
theorem dJ6_numberOfTrailingZeros_0f7a4_4 : decode cJ6_numberOfTrailingZeros_0f7a4 4 = .ok (.iconst 1, 1) := by decide +kernel
theorem dJ6_numberOfTrailingZeros_0f7a4_5 : decode cJ6_numberOfTrailingZeros_0f7a4 5 = .ok (.isub, 1) := by decide +kernel
theorem dJ6_numberOfTrailingZeros_0f7a4_6 : decode cJ6_numberOfTrailingZeros_0f7a4 6 = .ok (.iand, 1) := by decide +kernel
theorem dJ6_numberOfTrailingZeros_0f7a4_7 : decode cJ6_numberOfTrailingZeros_0f7a4 7 = .ok (.istore_n 0, 1) := by decide +kernel
theorem dJ6_numberOfTrailingZeros_0f7a4_8 : decode cJ6_numberOfTrailingZeros_0f7a4 8 = .ok (.iload_n 0, 1) := by decide +kernel
theorem dJ6_numberOfTrailingZeros_0f7a4_9 : decode cJ6_numberOfTrailingZeros_0f7a4 9 = .ok (.ifCond .gt 8, 3) := by decide +kernel
theorem dJ6_numberOfTrailingZeros_0f7a4_12 : decode cJ6_numberOfTrailingZeros_0f7a4 12 = .ok (.iload_n 0, 1) := by decide +kernel
theorem dJ6_numberOfTrailingZeros_0f7a4_13 : decode cJ6_numberOfTrailingZeros_0f7a4 13 = .ok (.bipush 32, 2) := by decide +kernel
theorem dJ6_numberOfTrailingZeros_0f7a4_15 : decode cJ6_numberOfTrailingZeros_0f7a4 15 = .ok (.iand, 1) := by decide +kernel
theorem dJ6_numberOfTrailingZeros_0f7a4_16 : decode cJ6_numberOfTrailingZeros_0f7a4 16 = .ok (.ireturn, 1) := by decide +kernel
theorem dJ6_numberOfTrailingZeros_0f7a4_17 : decode cJ6_numberOfTrailingZeros_0f7a4 17 = .ok (.iconst 1, 1) := by decide +kernel
theorem dJ6_numberOfTrailingZeros_0f7a4_18 : decode cJ6_numberOfTrailingZeros_0f7a4 18 = .ok (.istore_n 1, 1) := by decide +kernel
theorem dJ6_numberOfTrailingZeros_0f7a4_19 : decode cJ6_numberOfTrailingZeros_0f7a4 19 = .ok (.iload_n 0, 1) := by decide +kernel
theorem dJ6_numberOfTrailingZeros_0f7a4_20 : decode cJ6_numberOfTrailingZeros_0f7a4 20 = .ok (.ldc_w 264, 3) := by decide +kernel
theorem dJ6_numberOfTrailingZeros_0f7a4_23 : decode cJ6_numberOfTrailingZeros_0f7a4 23 = .ok (.if_icmp .le 11, 3) := by decide +kernel
theorem dJ6_numberOfTrailingZeros_0f7a4_26 : decode cJ6_numberOfTrailingZeros_0f7a4 26 = .ok (.iinc 1 16, 3) := by decide +kernel
theorem dJ6_numberOfTrailingZeros_0f7a4_29 : decode cJ6_numberOfTrailingZeros_0f7a4 29 = .ok (.iload_n 0, 1) := by decide +kernel
theorem dJ6_numberOfTrailingZeros_0f7a4_30 : decode cJ6_numberOfTrailingZeros_0f7a4 30 = .ok (.bipush 16, 2) := by decide +kernel
theorem dJ6_numberOfTrailingZeros_0f7a4_32 : decode cJ6_numberOfTrailingZeros_0f7a4 32 = .ok (.iushr, 1) := by decide +kernel
theorem dJ6_numberOfTrailingZeros_0f7a4_33 : decode cJ6_numberOfTrailingZeros_0f7a4 33 = .ok (.istore_n 0, 1) := by decide +kernel
theorem dJ6_numberOfTrailingZeros_0f7a4_34 : decode cJ6_numberOfTrailingZeros_0f7a4 34 = .ok (.iload_n 0, 1) := by decide +kernel
theorem dJ6_numberOfTrailingZeros_0f7a4_35 : decode cJ6_numberOfTrailingZeros_0f7a4 35 = .ok (.sipush 256, 3) := by decide +kernel
theorem dJ6_numberOfTrailingZeros_0f7a4_38 : decode cJ6_numberOfTrailingZeros_0f7a4 38 = .ok (.if_icmp .le 11, 3) := by decide +kernel
theorem dJ6_numberOfTrailingZeros_0f7a4_41 : decode cJ6_numberOfTrailingZeros_0f7a4 41 = .ok (.iinc 1 8, 3) := by decide +kernel
theorem dJ6_numberOfTrailingZeros_0f7a4_44 : decode cJ6_numberOfTrailingZeros_0f7a4 44 = .ok (.iload_n 0, 1) := by decide +kernel
theorem dJ6_numberOfTrailingZeros_0f7a4_45 : decode cJ6_numberOfTrailingZeros_0f7a4 45 = .ok (.bipush 8, 2) := by decide +kernel
theorem dJ6_numberOfTrailingZeros_0f7a4_47 : decode cJ6_numberOfTrailingZeros_0f7a4 47 = .ok (.iushr, 1) := by decide +kernel
theorem dJ6_numberOfTrailingZeros_0f7a4_48 : decode cJ6_numberOfTrailingZeros_0f7a4 48 = .ok (.istore_n 0, 1) := by decide +kernel
theorem dJ6_numberOfTrailingZeros_0f7a4_49 : decode cJ6_numberOfTrailingZeros_0f7a4 49 = .ok (.iload_n 0, 1) := by decide +kernel
theorem dJ6_numberOfTrailingZeros_0f7a4_50 : decode cJ6_numberOfTrailingZeros_0f7a4 50 = .ok (.bipush 16, 2) := by decide +kernel
theorem dJ6_numberOfTrailingZeros_0f7a4_52 : decode cJ6_numberOfTrailingZeros_0f7a4 52 = .ok (.if_icmp .le 10, 3) := by decide +kernel
theorem dJ6_numberOfTrailingZeros_0f7a4_55 : decode cJ6_numberOfTrailingZeros_0f7a4 55 = .ok (.iinc 1 4, 3) := by decide +kernel
theorem dJ6_numberOfTrailingZeros_0f7a4_58 : decode cJ6_numberOfTrailingZeros_0f7a4 58 = .ok (.iload_n 0, 1) := by decide +kernel
theorem dJ6_numberOfTrailingZeros_0f7a4_59 : decode cJ6_numberOfTrailingZeros_0f7a4 59 = .ok (.iconst 4, 1) := by decide +kernel
theorem dJ6_numberOfTrailingZeros_0f7a4_60 : decode cJ6_numberOfTrailingZeros_0f7a4 60 = .ok (.iushr, 1) := by decide +kernel
theorem dJ6_numberOfTrailingZeros_0f7a4_61 : decode cJ6_numberOfTrailingZeros_0f7a4 61 = .ok (.istore_n 0, 1) := by decide +kernel
theorem dJ6_numberOfTrailingZeros_0f7a4_62 : decode cJ6_numberOfTrailingZeros_0f7a4 62 = .ok (.iload_n 0, 1) := by decide +kernel
theorem dJ6_numberOfTrailingZeros_0f7a4_63 : decode cJ6_numberOfTrailingZeros_0f7a4 63 = .ok (.iconst 4, 1) := by decide +kernel
theorem dJ6_numberOfTrailingZeros_0f7a4_64 : decode cJ6_numberOfTrailingZeros_0f7a4 64 = .ok (.if_icmp .le 10, 3) := by decide +kernel
theorem dJ6_numberOfTrailingZeros_0f7a4_67 : decode cJ6_numberOfTrailingZeros_0f7a4 67 = .ok (.iinc 1 2, 3) := by decide +kernel
theorem dJ6_numberOfTrailingZeros_0f7a4_70 : decode cJ6_numberOfTrailingZeros_0f7a4 70 = .ok (.iload_n 0, 1) := by decide +kernel
theorem dJ6_numberOfTrailingZeros_0f7a4_71 : decode cJ6_numberOfTrailingZeros_0f7a4 71 = .ok (.iconst 2, 1) := by decide +kernel
theorem dJ6_numberOfTrailingZeros_0f7a4_72 : decode cJ6_numberOfTrailingZeros_0f7a4 72 = .ok (.iushr, 1) := by decide +kernel
theorem dJ6_numberOfTrailingZeros_0f7a4_73 : decode cJ6_numberOfTrailingZeros_0f7a4 73 = .ok (.istore_n 0, 1) := by decide +kernel
theorem dJ6_numberOfTrailingZeros_0f7a4_74 : decode cJ6_numberOfTrailingZeros_0f7a4 74 = .ok (.iload_n 1, 1) := by decide +kernel
theorem dJ6_numberOfTrailingZeros_0f7a4_75 : decode cJ6_numberOfTrailingZeros_0f7a4 75 = .ok (.iload_n 0, 1) := by decide +kernel
theorem dJ6_numberOfTrailingZeros_0f7a4_76 : decode cJ6_numberOfTrailingZeros_0f7a4 76 = .ok (.iconst 1, 1) := by decide +kernel
theorem dJ6_numberOfTrailingZeros_0f7a4_77 : decode cJ6_numberOfTrailingZeros_0f7a4 77 = .ok (.iushr, 1) := by decide +kernel
theorem dJ6_numberOfTrailingZeros_0f7a4_78 : decode cJ6_numberOfTrailingZeros_0f7a4 78 = .ok (.iadd, 1) := by decide +kernel
theorem dJ6_numberOfTrailingZeros_0f7a4_79 : decode cJ6_numberOfTrailingZeros_0f7a4 79 = .ok (.ireturn, 1) := by decide +kernel
theorem dJ6_bitCount_0f7a4_0 : decode cJ6_bitCount_0f7a4 0 = .ok (.iload_n 0, 1) := by decide +kernel
theorem dJ6_bitCount_0f7a4_1 : decode cJ6_bitCount_0f7a4 1 = .ok (.iload_n 0, 1) := by decide +kernel
theorem dJ6_bitCount_0f7a4_2 : decode cJ6_bitCount_0f7a4 2 = .ok (.iconst 1, 1) := by decide +kernel
theorem dJ6_bitCount_0f7a4_3 : decode cJ6_bitCount_0f7a4 3 = .ok (.iushr, 1) := by decide +kernel
theorem dJ6_bitCount_0f7a4_4 : decode cJ6_bitCount_0f7a4 4 = .ok (.ldc_w 265, 3) := by decide +kernel
theorem dJ6_bitCount_0f7a4_7 : decode cJ6_bitCount_0f7a4 7 = .ok (.iand, 1) := by decide +kernel
theorem dJ6_bitCount_0f7a4_8 : decode cJ6_bitCount_0f7a4 8 = .ok (.isub, 1) := by decide +kernel
theorem dJ6_bitCount_0f7a4_9 : decode cJ6_bitCount_0f7a4 9 = .ok (.istore_n 0, 1) := by decide +kernel
theorem dJ6_bitCount_0f7a4_10 : decode cJ6_bitCount_0f7a4 10 = .ok (.iload_n 0, 1) := by decide +kernel
theorem dJ6_bitCount_0f7a4_11 : decode cJ6_bitCount_0f7a4 11 = .ok (.ldc_w 266, 3) := by decide +kernel
theorem dJ6_bitCount_0f7a4_14 : decode cJ6_bitCount_0f7a4 14 = .ok (.iand, 1) := by decide +kernel
theorem dJ6_bitCount_0f7a4_15 : decode cJ6_bitCount_0f7a4 15 = .ok (.iload_n 0, 1) := by decide +kernel
theorem dJ6_bitCount_0f7a4_16 : decode cJ6_bitCount_0f7a4 16 = .ok (.iconst 2, 1) := by decide +kernel
theorem dJ6_bitCount_0f7a4_17 : decode cJ6_bitCount_0f7a4 17 = .ok (.iushr, 1) := by decide +kernel
theorem dJ6_bitCount_0f7a4_18 : decode cJ6_bitCount_0f7a4 18 = .ok (.ldc_w 266, 3) := by decide +kernel
theorem dJ6_bitCount_0f7a4_21 : decode cJ6_bitCount_0f7a4 21 = .ok (.iand, 1) := by decide +kernel
theorem dJ6_bitCount_0f7a4_22 : decode cJ6_bitCount_0f7a4 22 = .ok (.iadd, 1) := by decide +kernel
theorem dJ6_bitCount_0f7a4_23 : decode cJ6_bitCount_0f7a4 23 = .ok (.istore_n 0, 1) := by decide +kernel
theorem dJ6_bitCount_0f7a4_24 : decode cJ6_bitCount_0f7a4 24 = .ok (.iload_n 0, 1) := by decide +kernel
theorem dJ6_bitCount_0f7a4_25 : decode cJ6_bitCount_0f7a4 25 = .ok (.iload_n 0, 1) := by decide +kernel
theorem dJ6_bitCount_0f7a4_26 : decode cJ6_bitCount_0f7a4 26 = .ok (.iconst 4, 1) := by decide +kernel
theorem dJ6_bitCount_0f7a4_27 : decode cJ6_bitCount_0f7a4 27 = .ok (.iushr, 1) := by decide +kernel
theorem dJ6_bitCount_0f7a4_28 : decode cJ6_bitCount_0f7a4 28 = .ok (.iadd, 1) := by decide +kernel
theorem dJ6_bitCount_0f7a4_29 : decode cJ6_bitCount_0f7a4 29 = .ok (.ldc_w 267, 3) := by decide +kernel
theorem dJ6_bitCount_0f7a4_32 : decode cJ6_bitCount_0f7a4 32 = .ok (.iand, 1) := by decide +kernel
theorem dJ6_bitCount_0f7a4_33 : decode cJ6_bitCount_0f7a4 33 = .ok (.istore_n 0, 1) := by decide +kernel
theorem dJ6_bitCount_0f7a4_34 : decode cJ6_bitCount_0f7a4 34 = .ok (.iload_n 0, 1) := by decide +kernel
theorem dJ6_bitCount_0f7a4_35 : decode cJ6_bitCount_0f7a4 35 = .ok (.iload_n 0, 1) := by decide +kernel
theorem dJ6_bitCount_0f7a4_36 : decode cJ6_bitCount_0f7a4 36 = .ok (.bipush 8, 2) := by decide +kernel
theorem dJ6_bitCount_0f7a4_38 : decode cJ6_bitCount_0f7a4 38 = .ok (.iushr, 1) := by decide +kernel
theorem dJ6_bitCount_0f7a4_39 : decode cJ6_bitCount_0f7a4 39 = .ok (.iadd, 1) := by decide +kernel
theorem dJ6_bitCount_0f7a4_40 : decode cJ6_bitCount_0f7a4 40 = .ok (.istore_n 0, 1) := by decide +kernel
theorem dJ6_bitCount_0f7a4_41 : decode cJ6_bitCount_0f7a4 41 = .ok (.iload_n 0, 1) := by decide +kernel
theorem dJ6_bitCount_0f7a4_42 : decode cJ6_bitCount_0f7a4 42 = .ok (.iload_n 0, 1) := by decide +kernel
theorem dJ6_bitCount_0f7a4_43 : decode cJ6_bitCount_0f7a4 43 = .ok (.bipush 16, 2) := by decide +kernel
theorem dJ6_bitCount_0f7a4_45 : decode cJ6_bitCount_0f7a4 45 = .ok (.iushr, 1) := by decide +kernel
theorem dJ6_bitCount_0f7a4_46 : decode cJ6_bitCount_0f7a4 46 = .ok (.iadd, 1) := by decide +kernel
theorem dJ6_bitCount_0f7a4_47 : decode cJ6_bitCount_0f7a4 47 = .ok (.istore_n 0, 1) := by decide +kernel
theorem dJ6_bitCount_0f7a4_48 : decode cJ6_bitCount_0f7a4 48 = .ok (.iload_n 0, 1) := by decide +kernel
theorem dJ6_bitCount_0f7a4_49 : decode cJ6_bitCount_0f7a4 49 = .ok (.bipush 63, 2) := by decide +kernel
theorem dJ6_bitCount_0f7a4_51 : decode cJ6_bitCount_0f7a4 51 = .ok (.iand, 1) := by decide +kernel
theorem dJ6_bitCount_0f7a4_52 : decode cJ6_bitCount_0f7a4 52 = .ok (.ireturn, 1) := by decide +kernel
theorem dJ9_abs_0f7a4_0 : decode cJ9_abs_0f7a4 0 = .ok (.iload_n 0, 1) := by decide +kernel
theorem dJ9_abs_0f7a4_1 : decode cJ9_abs_0f7a4 1 = .ok (.ifCond .ge 8, 3) := by decide +kernel
theorem dJ9_abs_0f7a4_4 : decode cJ9_abs_0f7a4 4 = .ok (.iload_n 0, 1) := by decide +kernel
theorem dJ9_abs_0f7a4_5 : decode cJ9_abs_0f7a4 5 = .ok (.ineg, 1) := by decide +kernel
theorem dJ9_abs_0f7a4_6 : decode cJ9_abs_0f7a4 6 = .ok (.goto 4, 3) := by decide +kernel
theorem dJ9_abs_0f7a4_9 : decode cJ9_abs_0f7a4 9 = .ok (.iload_n 0, 1) := by decide +kernel
theorem dJ9_abs_0f7a4_10 : decode cJ9_abs_0f7a4 10 = .ok (.ireturn, 1) := by decide +kernel
theorem dJ9_max_7cf53_0 : decode cJ9_max_7cf53 0 = .ok (.iload_n 0, 1) := by decide +kernel
theorem dJ9_max_7cf53_1 : decode cJ9_max_7cf53 1 = .ok (.iload_n 1, 1) := by decide +kernel
theorem dJ9_max_7cf53_2 : decode cJ9_max_7cf53 2 = .ok (.if_icmp .lt 7, 3) := by decide +kernel
theorem dJ9_max_7cf53_5 : decode cJ9_max_7cf53 5 = .ok (.iload_n 0, 1) := by decide +kernel
theorem dJ9_max_7cf53_6 : decode cJ9_max_7cf53 6 = .ok (.goto 4, 3) := by decide +kernel
theorem dJ9_max_7cf53_9 : decode cJ9_max_7cf53 9 = .ok (.iload_n 1, 1) := by decide +kernel
theorem dJ9_max_7cf53_10 : decode cJ9_max_7cf53 10 = .ok (.ireturn, 1) := by decide +kernel
theorem dJ9_min_7cf53_0 : decode cJ9_min_7cf53 0 = .ok (.iload_n 0, 1) := by decide +kernel
theorem dJ9_min_7cf53_1 : decode cJ9_min_7cf53 1 = .ok (.iload_n 1, 1) := by decide +kernel
theorem dJ9_min_7cf53_2 : decode cJ9_min_7cf53 2 = .ok (.if_icmp .gt 7, 3) := by decide +kernel
theorem dJ9_min_7cf53_5 : decode cJ9_min_7cf53 5 = .ok (.iload_n 0, 1) := by decide +kernel
theorem dJ9_min_7cf53_6 : decode cJ9_min_7cf53 6 = .ok (.goto 4, 3) := by decide +kernel
theorem dJ9_min_7cf53_9 : decode cJ9_min_7cf53 9 = .ok (.iload_n 1, 1) := by decide +kernel
theorem dJ9_min_7cf53_10 : decode cJ9_min_7cf53 10 = .ok (.ireturn, 1) := by decide +kernel
theorem dJ0_length_8abf5_0 : decode cJ0_length_8abf5 0 = .ok (.aload_n 0, 1) := by decide +kernel
theorem dJ0_length_8abf5_1 : decode cJ0_length_8abf5 1 = .ok (.getfield 9, 3) := by decide +kernel
theorem dJ0_length_8abf5_4 : decode cJ0_length_8abf5 4 = .ok (.arraylength, 1) := by decide +kernel
theorem dJ0_length_8abf5_5 : decode cJ0_length_8abf5 5 = .ok (.aload_n 0, 1) := by decide +kernel
theorem dJ0_length_8abf5_6 : decode cJ0_length_8abf5 6 = .ok (.invokevirtual 335, 3) := by decide +kernel
theorem dJ0_length_8abf5_9 : decode cJ0_length_8abf5 9 = .ok (.ishr, 1) := by decide +kernel
theorem dJ0_length_8abf5_10 : decode cJ0_length_8abf5 10 = .ok (.ireturn, 1) := by decide +kernel
theorem dJ0_charAt_5068e_0 : decode cJ0_charAt_5068e 0 = .ok (.aload_n 0, 1) := by decide +kernel
theorem dJ0_charAt_5068e_1 : decode cJ0_charAt_5068e 1 = .ok (.invokevirtual 492, 3) := by decide +kernel
theorem dJ0_charAt_5068e_4 : decode cJ0_charAt_5068e 4 = .ok (.ifCond .eq 12, 3) := by decide +kernel
theorem dJ0_charAt_5068e_7 : decode cJ0_charAt_5068e 7 = .ok (.aload_n 0, 1) := by decide +kernel
