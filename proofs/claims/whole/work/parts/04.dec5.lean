theorem dJ0_charAt_5068e_8 : decode cJ0_charAt_5068e 8 = .ok (.getfield 9, 3) := by decide +kernel
theorem dJ0_charAt_5068e_11 : decode cJ0_charAt_5068e 11 = .ok (.iload_n 1, 1) := by decide +kernel
theorem dJ0_charAt_5068e_12 : decode cJ0_charAt_5068e 12 = .ok (.invokestatic 495, 3) := by decide +kernel
theorem dJ0_charAt_5068e_15 : decode cJ0_charAt_5068e 15 = .ok (.ireturn, 1) := by decide +kernel
theorem dJ0_charAt_5068e_16 : decode cJ0_charAt_5068e 16 = .ok (.aload_n 0, 1) := by decide +kernel
theorem dJ0_charAt_5068e_17 : decode cJ0_charAt_5068e 17 = .ok (.getfield 9, 3) := by decide +kernel
theorem dJ0_charAt_5068e_20 : decode cJ0_charAt_5068e 20 = .ok (.iload_n 1, 1) := by decide +kernel
theorem dJ0_charAt_5068e_21 : decode cJ0_charAt_5068e 21 = .ok (.invokestatic 498, 3) := by decide +kernel
theorem dJ0_charAt_5068e_24 : decode cJ0_charAt_5068e 24 = .ok (.ireturn, 1) := by decide +kernel
theorem dJ0_coder_7d493_0 : decode cJ0_coder_7d493 0 = .ok (.getstatic 38, 3) := by decide +kernel
theorem dJ0_coder_7d493_3 : decode cJ0_coder_7d493 3 = .ok (.ifCond .eq 10, 3) := by decide +kernel
theorem dJ0_coder_7d493_6 : decode cJ0_coder_7d493 6 = .ok (.aload_n 0, 1) := by decide +kernel
theorem dJ0_coder_7d493_7 : decode cJ0_coder_7d493 7 = .ok (.getfield 15, 3) := by decide +kernel
theorem dJ0_coder_7d493_10 : decode cJ0_coder_7d493 10 = .ok (.goto 4, 3) := by decide +kernel
theorem dJ0_coder_7d493_13 : decode cJ0_coder_7d493 13 = .ok (.iconst 1, 1) := by decide +kernel
theorem dJ0_coder_7d493_14 : decode cJ0_coder_7d493 14 = .ok (.ireturn, 1) := by decide +kernel
theorem dJ0_isLatin1_aae02_0 : decode cJ0_isLatin1_aae02 0 = .ok (.getstatic 38, 3) := by decide +kernel
theorem dJ0_isLatin1_aae02_3 : decode cJ0_isLatin1_aae02 3 = .ok (.ifCond .eq 14, 3) := by decide +kernel
theorem dJ0_isLatin1_aae02_6 : decode cJ0_isLatin1_aae02 6 = .ok (.aload_n 0, 1) := by decide +kernel
theorem dJ0_isLatin1_aae02_7 : decode cJ0_isLatin1_aae02 7 = .ok (.getfield 15, 3) := by decide +kernel
theorem dJ0_isLatin1_aae02_10 : decode cJ0_isLatin1_aae02 10 = .ok (.ifCond .ne 7, 3) := by decide +kernel
theorem dJ0_isLatin1_aae02_13 : decode cJ0_isLatin1_aae02 13 = .ok (.iconst 1, 1) := by decide +kernel
theorem dJ0_isLatin1_aae02_14 : decode cJ0_isLatin1_aae02 14 = .ok (.goto 4, 3) := by decide +kernel
theorem dJ0_isLatin1_aae02_17 : decode cJ0_isLatin1_aae02 17 = .ok (.iconst 0, 1) := by decide +kernel
theorem dJ0_isLatin1_aae02_18 : decode cJ0_isLatin1_aae02 18 = .ok (.ireturn, 1) := by decide +kernel
theorem dJ0_checkIndex_df160_0 : decode cJ0_checkIndex_df160 0 = .ok (.iload_n 0, 1) := by decide +kernel
theorem dJ0_checkIndex_df160_1 : decode cJ0_checkIndex_df160 1 = .ok (.iload_n 1, 1) := by decide +kernel
theorem dJ0_checkIndex_df160_2 : decode cJ0_checkIndex_df160 2 = .ok (.getstatic 1053, 3) := by decide +kernel
theorem dJ0_checkIndex_df160_5 : decode cJ0_checkIndex_df160 5 = .ok (.invokestatic 1059, 3) := by decide +kernel
theorem dJ0_checkIndex_df160_8 : decode cJ0_checkIndex_df160 8 = .ok (.pop, 1) := by decide +kernel
theorem dJ0_checkIndex_df160_9 : decode cJ0_checkIndex_df160 9 = .ok (.return_, 1) := by decide +kernel
theorem dJ1_charAt_3b067_0 : decode cJ1_charAt_3b067 0 = .ok (.iload_n 1, 1) := by decide +kernel
theorem dJ1_charAt_3b067_1 : decode cJ1_charAt_3b067 1 = .ok (.aload_n 0, 1) := by decide +kernel
theorem dJ1_charAt_3b067_2 : decode cJ1_charAt_3b067 2 = .ok (.arraylength, 1) := by decide +kernel
theorem dJ1_charAt_3b067_3 : decode cJ1_charAt_3b067 3 = .ok (.invokestatic 9, 3) := by decide +kernel
theorem dJ1_charAt_3b067_6 : decode cJ1_charAt_3b067 6 = .ok (.aload_n 0, 1) := by decide +kernel
theorem dJ1_charAt_3b067_7 : decode cJ1_charAt_3b067 7 = .ok (.iload_n 1, 1) := by decide +kernel
theorem dJ1_charAt_3b067_8 : decode cJ1_charAt_3b067 8 = .ok (.baload, 1) := by decide +kernel
theorem dJ1_charAt_3b067_9 : decode cJ1_charAt_3b067 9 = .ok (.sipush 255, 3) := by decide +kernel
theorem dJ1_charAt_3b067_12 : decode cJ1_charAt_3b067 12 = .ok (.iand, 1) := by decide +kernel
theorem dJ1_charAt_3b067_13 : decode cJ1_charAt_3b067 13 = .ok (.i2c, 1) := by decide +kernel
theorem dJ1_charAt_3b067_14 : decode cJ1_charAt_3b067 14 = .ok (.ireturn, 1) := by decide +kernel
theorem dJ2_getChar_3b067_0 : decode cJ2_getChar_3b067 0 = .ok (.getstatic 44, 3) := by decide +kernel
theorem dJ2_getChar_3b067_3 : decode cJ2_getChar_3b067 3 = .ok (.ifCond .ne 25, 3) := by decide +kernel
theorem dJ2_getChar_3b067_6 : decode cJ2_getChar_3b067 6 = .ok (.iload_n 1, 1) := by decide +kernel
theorem dJ2_getChar_3b067_7 : decode cJ2_getChar_3b067 7 = .ok (.ifCond .lt 11, 3) := by decide +kernel
theorem dJ2_getChar_3b067_10 : decode cJ2_getChar_3b067 10 = .ok (.iload_n 1, 1) := by decide +kernel
theorem dJ2_getChar_3b067_11 : decode cJ2_getChar_3b067 11 = .ok (.aload_n 0, 1) := by decide +kernel
theorem dJ2_getChar_3b067_12 : decode cJ2_getChar_3b067 12 = .ok (.invokestatic 48, 3) := by decide +kernel
theorem dJ2_getChar_3b067_15 : decode cJ2_getChar_3b067 15 = .ok (.if_icmp .lt 13, 3) := by decide +kernel
theorem dJ2_getChar_3b067_18 : decode cJ2_getChar_3b067 18 = .ok (.new 52, 3) := by decide +kernel
theorem dJ2_getChar_3b067_21 : decode cJ2_getChar_3b067 21 = .ok (.dup, 1) := by decide +kernel
theorem dJ2_getChar_3b067_22 : decode cJ2_getChar_3b067 22 = .ok (.ldc 54, 2) := by decide +kernel
theorem dJ2_getChar_3b067_24 : decode cJ2_getChar_3b067 24 = .ok (.invokespecial 56, 3) := by decide +kernel
theorem dJ2_getChar_3b067_27 : decode cJ2_getChar_3b067 27 = .ok (.athrow, 1) := by decide +kernel
theorem dJ2_getChar_3b067_28 : decode cJ2_getChar_3b067 28 = .ok (.iload_n 1, 1) := by decide +kernel
theorem dJ2_getChar_3b067_29 : decode cJ2_getChar_3b067 29 = .ok (.iconst 1, 1) := by decide +kernel
theorem dJ2_getChar_3b067_30 : decode cJ2_getChar_3b067 30 = .ok (.ishl, 1) := by decide +kernel
theorem dJ2_getChar_3b067_31 : decode cJ2_getChar_3b067 31 = .ok (.istore_n 1, 1) := by decide +kernel
theorem dJ2_getChar_3b067_32 : decode cJ2_getChar_3b067 32 = .ok (.aload_n 0, 1) := by decide +kernel
theorem dJ2_getChar_3b067_33 : decode cJ2_getChar_3b067 33 = .ok (.iload_n 1, 1) := by decide +kernel
theorem dJ2_getChar_3b067_34 : decode cJ2_getChar_3b067 34 = .ok (.iinc 1 1, 3) := by decide +kernel
theorem dJ2_getChar_3b067_37 : decode cJ2_getChar_3b067 37 = .ok (.baload, 1) := by decide +kernel
theorem dJ2_getChar_3b067_38 : decode cJ2_getChar_3b067 38 = .ok (.sipush 255, 3) := by decide +kernel
theorem dJ2_getChar_3b067_41 : decode cJ2_getChar_3b067 41 = .ok (.iand, 1) := by decide +kernel
theorem dJ2_getChar_3b067_42 : decode cJ2_getChar_3b067 42 = .ok (.getstatic 59, 3) := by decide +kernel
theorem dJ2_getChar_3b067_45 : decode cJ2_getChar_3b067 45 = .ok (.ishl, 1) := by decide +kernel
theorem dJ2_getChar_3b067_46 : decode cJ2_getChar_3b067 46 = .ok (.aload_n 0, 1) := by decide +kernel
theorem dJ2_getChar_3b067_47 : decode cJ2_getChar_3b067 47 = .ok (.iload_n 1, 1) := by decide +kernel
theorem dJ2_getChar_3b067_48 : decode cJ2_getChar_3b067 48 = .ok (.baload, 1) := by decide +kernel
theorem dJ2_getChar_3b067_49 : decode cJ2_getChar_3b067 49 = .ok (.sipush 255, 3) := by decide +kernel
theorem dJ2_getChar_3b067_52 : decode cJ2_getChar_3b067 52 = .ok (.iand, 1) := by decide +kernel
theorem dJ2_getChar_3b067_53 : decode cJ2_getChar_3b067 53 = .ok (.getstatic 63, 3) := by decide +kernel
theorem dJ2_getChar_3b067_56 : decode cJ2_getChar_3b067 56 = .ok (.ishl, 1) := by decide +kernel
theorem dJ2_getChar_3b067_57 : decode cJ2_getChar_3b067 57 = .ok (.ior, 1) := by decide +kernel
theorem dJ2_getChar_3b067_58 : decode cJ2_getChar_3b067 58 = .ok (.i2c, 1) := by decide +kernel
theorem dJ2_getChar_3b067_59 : decode cJ2_getChar_3b067 59 = .ok (.ireturn, 1) := by decide +kernel
theorem dJ2_length_9d52b_0 : decode cJ2_length_9d52b 0 = .ok (.aload_n 0, 1) := by decide +kernel
theorem dJ2_length_9d52b_1 : decode cJ2_length_9d52b 1 = .ok (.arraylength, 1) := by decide +kernel
theorem dJ2_length_9d52b_2 : decode cJ2_length_9d52b 2 = .ok (.iconst 1, 1) := by decide +kernel
theorem dJ2_length_9d52b_3 : decode cJ2_length_9d52b 3 = .ok (.ishr, 1) := by decide +kernel
theorem dJ2_length_9d52b_4 : decode cJ2_length_9d52b 4 = .ok (.ireturn, 1) := by decide +kernel
theorem dJ2_charAt_3b067_0 : decode cJ2_charAt_3b067 0 = .ok (.iload_n 1, 1) := by decide +kernel
theorem dJ2_charAt_3b067_1 : decode cJ2_charAt_3b067 1 = .ok (.aload_n 0, 1) := by decide +kernel
theorem dJ2_charAt_3b067_2 : decode cJ2_charAt_3b067 2 = .ok (.invokestatic 67, 3) := by decide +kernel
theorem dJ2_charAt_3b067_5 : decode cJ2_charAt_3b067 5 = .ok (.aload_n 0, 1) := by decide +kernel
theorem dJ2_charAt_3b067_6 : decode cJ2_charAt_3b067 6 = .ok (.iload_n 1, 1) := by decide +kernel
theorem dJ2_charAt_3b067_7 : decode cJ2_charAt_3b067 7 = .ok (.invokestatic 71, 3) := by decide +kernel
theorem dJ2_charAt_3b067_10 : decode cJ2_charAt_3b067 10 = .ok (.ireturn, 1) := by decide +kernel
theorem dJ2_checkIndex_2214a_0 : decode cJ2_checkIndex_2214a 0 = .ok (.iload_n 0, 1) := by decide +kernel
theorem dJ2_checkIndex_2214a_1 : decode cJ2_checkIndex_2214a 1 = .ok (.aload_n 1, 1) := by decide +kernel
theorem dJ2_checkIndex_2214a_2 : decode cJ2_checkIndex_2214a 2 = .ok (.invokestatic 48, 3) := by decide +kernel
theorem dJ2_checkIndex_2214a_5 : decode cJ2_checkIndex_2214a 5 = .ok (.invokestatic 414, 3) := by decide +kernel
theorem dJ2_checkIndex_2214a_8 : decode cJ2_checkIndex_2214a 8 = .ok (.return_, 1) := by decide +kernel
theorem dJ3_checkIndex_8e157_0 : decode cJ3_checkIndex_8e157 0 = .ok (.iload_n 0, 1) := by decide +kernel
theorem dJ3_checkIndex_8e157_1 : decode cJ3_checkIndex_8e157 1 = .ok (.ifCond .lt 8, 3) := by decide +kernel
theorem dJ3_checkIndex_8e157_4 : decode cJ3_checkIndex_8e157 4 = .ok (.iload_n 0, 1) := by decide +kernel
theorem dJ3_checkIndex_8e157_5 : decode cJ3_checkIndex_8e157 5 = .ok (.iload_n 1, 1) := by decide +kernel
theorem dJ3_checkIndex_8e157_6 : decode cJ3_checkIndex_8e157 6 = .ok (.if_icmp .lt 10, 3) := by decide +kernel
theorem dJ3_checkIndex_8e157_9 : decode cJ3_checkIndex_8e157 9 = .ok (.aload_n 2, 1) := by decide +kernel
theorem dJ3_checkIndex_8e157_10 : decode cJ3_checkIndex_8e157 10 = .ok (.iload_n 0, 1) := by decide +kernel
theorem dJ3_checkIndex_8e157_11 : decode cJ3_checkIndex_8e157 11 = .ok (.iload_n 1, 1) := by decide +kernel
theorem dJ3_checkIndex_8e157_12 : decode cJ3_checkIndex_8e157 12 = .ok (.invokestatic 95, 3) := by decide +kernel
theorem dJ3_checkIndex_8e157_15 : decode cJ3_checkIndex_8e157 15 = .ok (.athrow, 1) := by decide +kernel
theorem dJ3_checkIndex_8e157_16 : decode cJ3_checkIndex_8e157 16 = .ok (.iload_n 0, 1) := by decide +kernel
theorem dJ3_checkIndex_8e157_17 : decode cJ3_checkIndex_8e157 17 = .ok (.ireturn, 1) := by decide +kernel
theorem dL_parish_0 : decode cL_parish 0 = .ok (.aload_n 1, 1) := by decide +kernel
theorem dL_parish_1 : decode cL_parish 1 = .ok (.iconst 0, 1) := by decide +kernel
theorem dL_parish_2 : decode cL_parish 2 = .ok (.aload_n 0, 1) := by decide +kernel
theorem dL_parish_3 : decode cL_parish 3 = .ok (.invokevirtual 7, 3) := by decide +kernel
theorem dL_parish_6 : decode cL_parish 6 = .ok (.i2l, 1) := by decide +kernel
theorem dL_parish_7 : decode cL_parish 7 = .ok (.lastore, 1) := by decide +kernel
theorem dL_parish_8 : decode cL_parish 8 = .ok (.goto 9, 3) := by decide +kernel
theorem dL_parish_11 : decode cL_parish 11 = .ok (.astore_n 2, 1) := by decide +kernel
theorem dL_parish_12 : decode cL_parish 12 = .ok (.iconst 1, 1) := by decide +kernel
theorem dL_parish_13 : decode cL_parish 13 = .ok (.ireturn, 1) := by decide +kernel
theorem dL_parish_14 : decode cL_parish 14 = .ok (.astore_n 2, 1) := by decide +kernel
theorem dL_parish_15 : decode cL_parish 15 = .ok (.iconst 2, 1) := by decide +kernel
theorem dL_parish_16 : decode cL_parish 16 = .ok (.ireturn, 1) := by decide +kernel
theorem dL_parish_17 : decode cL_parish 17 = .ok (.iconst 0, 1) := by decide +kernel
theorem dL_parish_18 : decode cL_parish 18 = .ok (.ireturn, 1) := by decide +kernel
theorem dL_law_0 : decode cL_law 0 = .ok (.aload_n 1, 1) := by decide +kernel
theorem dL_law_1 : decode cL_law 1 = .ok (.iconst 0, 1) := by decide +kernel
theorem dL_law_2 : decode cL_law 2 = .ok (.aload_n 0, 1) := by decide +kernel
theorem dL_law_3 : decode cL_law 3 = .ok (.invokevirtual 17, 3) := by decide +kernel
theorem dL_law_6 : decode cL_law 6 = .ok (.i2l, 1) := by decide +kernel
theorem dL_law_7 : decode cL_law 7 = .ok (.lastore, 1) := by decide +kernel
theorem dL_law_8 : decode cL_law 8 = .ok (.goto 6, 3) := by decide +kernel
theorem dL_law_11 : decode cL_law 11 = .ok (.astore_n 2, 1) := by decide +kernel
theorem dL_law_12 : decode cL_law 12 = .ok (.iconst 1, 1) := by decide +kernel
theorem dL_law_13 : decode cL_law 13 = .ok (.ireturn, 1) := by decide +kernel
theorem dL_law_14 : decode cL_law 14 = .ok (.iconst 0, 1) := by decide +kernel
theorem dL_law_15 : decode cL_law 15 = .ok (.ireturn, 1) := by decide +kernel
theorem dL_thing_0 : decode cL_thing 0 = .ok (.aload_n 3, 1) := by decide +kernel
theorem dL_thing_1 : decode cL_thing 1 = .ok (.iconst 0, 1) := by decide +kernel
theorem dL_thing_2 : decode cL_thing 2 = .ok (.aload_n 0, 1) := by decide +kernel
theorem dL_thing_3 : decode cL_thing 3 = .ok (.iload_n 1, 1) := by decide +kernel
theorem dL_thing_4 : decode cL_thing 4 = .ok (.iload_n 2, 1) := by decide +kernel
theorem dL_thing_5 : decode cL_thing 5 = .ok (.invokevirtual 20, 3) := by decide +kernel
theorem dL_thing_8 : decode cL_thing 8 = .ok (.i2l, 1) := by decide +kernel
theorem dL_thing_9 : decode cL_thing 9 = .ok (.lastore, 1) := by decide +kernel
theorem dL_thing_10 : decode cL_thing 10 = .ok (.goto 11, 3) := by decide +kernel
theorem dL_thing_13 : decode cL_thing 13 = .ok (.astore 4, 2) := by decide +kernel
theorem dL_thing_15 : decode cL_thing 15 = .ok (.iconst 1, 1) := by decide +kernel
theorem dL_thing_16 : decode cL_thing 16 = .ok (.ireturn, 1) := by decide +kernel
theorem dL_thing_17 : decode cL_thing 17 = .ok (.astore 4, 2) := by decide +kernel
theorem dL_thing_19 : decode cL_thing 19 = .ok (.iconst 2, 1) := by decide +kernel
theorem dL_thing_20 : decode cL_thing 20 = .ok (.ireturn, 1) := by decide +kernel
theorem dL_thing_21 : decode cL_thing 21 = .ok (.iconst 0, 1) := by decide +kernel
theorem dL_thing_22 : decode cL_thing 22 = .ok (.ireturn, 1) := by decide +kernel
theorem dL_child_0 : decode cL_child 0 = .ok (.aload_n 3, 1) := by decide +kernel
theorem dL_child_1 : decode cL_child 1 = .ok (.iconst 0, 1) := by decide +kernel
theorem dL_child_2 : decode cL_child 2 = .ok (.aload_n 0, 1) := by decide +kernel
theorem dL_child_3 : decode cL_child 3 = .ok (.iload_n 1, 1) := by decide +kernel
theorem dL_child_4 : decode cL_child 4 = .ok (.iload_n 2, 1) := by decide +kernel
theorem dL_child_5 : decode cL_child 5 = .ok (.invokevirtual 28, 3) := by decide +kernel
theorem dL_child_8 : decode cL_child 8 = .ok (.i2l, 1) := by decide +kernel
theorem dL_child_9 : decode cL_child 9 = .ok (.lastore, 1) := by decide +kernel
theorem dL_child_10 : decode cL_child 10 = .ok (.goto 11, 3) := by decide +kernel
theorem dL_child_13 : decode cL_child 13 = .ok (.astore 4, 2) := by decide +kernel
theorem dL_child_15 : decode cL_child 15 = .ok (.iconst 1, 1) := by decide +kernel
theorem dL_child_16 : decode cL_child 16 = .ok (.ireturn, 1) := by decide +kernel
theorem dL_child_17 : decode cL_child 17 = .ok (.astore 4, 2) := by decide +kernel
theorem dL_child_19 : decode cL_child 19 = .ok (.iconst 2, 1) := by decide +kernel
theorem dL_child_20 : decode cL_child 20 = .ok (.ireturn, 1) := by decide +kernel
theorem dL_child_21 : decode cL_child 21 = .ok (.iconst 0, 1) := by decide +kernel
theorem dL_child_22 : decode cL_child 22 = .ok (.ireturn, 1) := by decide +kernel
theorem dL_months_0 : decode cL_months 0 = .ok (.aload_n 2, 1) := by decide +kernel
theorem dL_months_1 : decode cL_months 1 = .ok (.iconst 0, 1) := by decide +kernel
theorem dL_months_2 : decode cL_months 2 = .ok (.aload_n 0, 1) := by decide +kernel
theorem dL_months_3 : decode cL_months 3 = .ok (.iload_n 1, 1) := by decide +kernel
theorem dL_months_4 : decode cL_months 4 = .ok (.invokevirtual 31, 3) := by decide +kernel
theorem dL_months_7 : decode cL_months 7 = .ok (.i2l, 1) := by decide +kernel
theorem dL_months_8 : decode cL_months 8 = .ok (.lastore, 1) := by decide +kernel
theorem dL_months_9 : decode cL_months 9 = .ok (.goto 6, 3) := by decide +kernel
theorem dL_months_12 : decode cL_months 12 = .ok (.astore_n 3, 1) := by decide +kernel
theorem dL_months_13 : decode cL_months 13 = .ok (.iconst 1, 1) := by decide +kernel
theorem dL_months_14 : decode cL_months 14 = .ok (.ireturn, 1) := by decide +kernel
theorem dL_months_15 : decode cL_months 15 = .ok (.iconst 0, 1) := by decide +kernel
theorem dL_months_16 : decode cL_months 16 = .ok (.ireturn, 1) := by decide +kernel
theorem dL_birth_0 : decode cL_birth 0 = .ok (.aload_n 1, 1) := by decide +kernel
theorem dL_birth_1 : decode cL_birth 1 = .ok (.iconst 0, 1) := by decide +kernel
theorem dL_birth_2 : decode cL_birth 2 = .ok (.aload_n 0, 1) := by decide +kernel
theorem dL_birth_3 : decode cL_birth 3 = .ok (.invokevirtual 35, 3) := by decide +kernel
theorem dL_birth_6 : decode cL_birth 6 = .ok (.i2l, 1) := by decide +kernel
theorem dL_birth_7 : decode cL_birth 7 = .ok (.lastore, 1) := by decide +kernel
theorem dL_birth_8 : decode cL_birth 8 = .ok (.goto 6, 3) := by decide +kernel
theorem dL_birth_11 : decode cL_birth 11 = .ok (.astore_n 2, 1) := by decide +kernel
theorem dL_birth_12 : decode cL_birth 12 = .ok (.iconst 1, 1) := by decide +kernel
theorem dL_birth_13 : decode cL_birth 13 = .ok (.ireturn, 1) := by decide +kernel
theorem dL_birth_14 : decode cL_birth 14 = .ok (.iconst 0, 1) := by decide +kernel
theorem dL_birth_15 : decode cL_birth 15 = .ok (.ireturn, 1) := by decide +kernel
theorem dL_move_0 : decode cL_move 0 = .ok (.aload_n 3, 1) := by decide +kernel
theorem dL_move_1 : decode cL_move 1 = .ok (.iconst 0, 1) := by decide +kernel
theorem dL_move_2 : decode cL_move 2 = .ok (.aload_n 0, 1) := by decide +kernel
theorem dL_move_3 : decode cL_move 3 = .ok (.iload_n 1, 1) := by decide +kernel
theorem dL_move_4 : decode cL_move 4 = .ok (.iload_n 2, 1) := by decide +kernel
theorem dL_move_5 : decode cL_move 5 = .ok (.invokevirtual 40, 3) := by decide +kernel
theorem dL_move_8 : decode cL_move 8 = .ok (.i2l, 1) := by decide +kernel
theorem dL_move_9 : decode cL_move 9 = .ok (.lastore, 1) := by decide +kernel
theorem dL_move_10 : decode cL_move 10 = .ok (.goto 11, 3) := by decide +kernel
theorem dL_move_13 : decode cL_move 13 = .ok (.astore 4, 2) := by decide +kernel
theorem dL_move_15 : decode cL_move 15 = .ok (.iconst 1, 1) := by decide +kernel
theorem dL_move_16 : decode cL_move 16 = .ok (.ireturn, 1) := by decide +kernel
theorem dL_move_17 : decode cL_move 17 = .ok (.astore 4, 2) := by decide +kernel
theorem dL_move_19 : decode cL_move 19 = .ok (.iconst 2, 1) := by decide +kernel
theorem dL_move_20 : decode cL_move 20 = .ok (.ireturn, 1) := by decide +kernel
theorem dL_move_21 : decode cL_move 21 = .ok (.iconst 0, 1) := by decide +kernel
theorem dL_move_22 : decode cL_move 22 = .ok (.ireturn, 1) := by decide +kernel
theorem dL_blow_0 : decode cL_blow 0 = .ok (.aload_n 2, 1) := by decide +kernel
theorem dL_blow_1 : decode cL_blow 1 = .ok (.iconst 0, 1) := by decide +kernel
theorem dL_blow_2 : decode cL_blow 2 = .ok (.aload_n 0, 1) := by decide +kernel
theorem dL_blow_3 : decode cL_blow 3 = .ok (.iload_n 1, 1) := by decide +kernel
theorem dL_blow_4 : decode cL_blow 4 = .ok (.invokevirtual 43, 3) := by decide +kernel
theorem dL_blow_7 : decode cL_blow 7 = .ok (.i2l, 1) := by decide +kernel
theorem dL_blow_8 : decode cL_blow 8 = .ok (.lastore, 1) := by decide +kernel
theorem dL_blow_9 : decode cL_blow 9 = .ok (.goto 9, 3) := by decide +kernel
theorem dL_blow_12 : decode cL_blow 12 = .ok (.astore_n 3, 1) := by decide +kernel
theorem dL_blow_13 : decode cL_blow 13 = .ok (.iconst 1, 1) := by decide +kernel
theorem dL_blow_14 : decode cL_blow 14 = .ok (.ireturn, 1) := by decide +kernel
theorem dL_blow_15 : decode cL_blow 15 = .ok (.astore_n 3, 1) := by decide +kernel
theorem dL_blow_16 : decode cL_blow 16 = .ok (.iconst 2, 1) := by decide +kernel
theorem dL_blow_17 : decode cL_blow 17 = .ok (.ireturn, 1) := by decide +kernel
theorem dL_blow_18 : decode cL_blow 18 = .ok (.iconst 0, 1) := by decide +kernel
theorem dL_blow_19 : decode cL_blow 19 = .ok (.ireturn, 1) := by decide +kernel
theorem dL_wish_0 : decode cL_wish 0 = .ok (.aload_n 3, 1) := by decide +kernel
theorem dL_wish_1 : decode cL_wish 1 = .ok (.iconst 0, 1) := by decide +kernel
theorem dL_wish_2 : decode cL_wish 2 = .ok (.aload_n 0, 1) := by decide +kernel
theorem dL_wish_3 : decode cL_wish 3 = .ok (.iload_n 1, 1) := by decide +kernel
theorem dL_wish_4 : decode cL_wish 4 = .ok (.iload_n 2, 1) := by decide +kernel
theorem dL_wish_5 : decode cL_wish 5 = .ok (.invokevirtual 46, 3) := by decide +kernel
theorem dL_wish_8 : decode cL_wish 8 = .ok (.i2l, 1) := by decide +kernel
theorem dL_wish_9 : decode cL_wish 9 = .ok (.lastore, 1) := by decide +kernel
theorem dL_wish_10 : decode cL_wish 10 = .ok (.goto 7, 3) := by decide +kernel
theorem dL_wish_13 : decode cL_wish 13 = .ok (.astore 4, 2) := by decide +kernel
theorem dL_wish_15 : decode cL_wish 15 = .ok (.iconst 1, 1) := by decide +kernel
theorem dL_wish_16 : decode cL_wish 16 = .ok (.ireturn, 1) := by decide +kernel
theorem dL_wish_17 : decode cL_wish 17 = .ok (.iconst 0, 1) := by decide +kernel
theorem dL_wish_18 : decode cL_wish 18 = .ok (.ireturn, 1) := by decide +kernel
theorem dL_grip_0 : decode cL_grip 0 = .ok (.aload_n 3, 1) := by decide +kernel
theorem dL_grip_1 : decode cL_grip 1 = .ok (.iconst 0, 1) := by decide +kernel
theorem dL_grip_2 : decode cL_grip 2 = .ok (.aload_n 0, 1) := by decide +kernel
theorem dL_grip_3 : decode cL_grip 3 = .ok (.iload_n 1, 1) := by decide +kernel
theorem dL_grip_4 : decode cL_grip 4 = .ok (.iload_n 2, 1) := by decide +kernel
theorem dL_grip_5 : decode cL_grip 5 = .ok (.invokevirtual 49, 3) := by decide +kernel
theorem dL_grip_8 : decode cL_grip 8 = .ok (.i2l, 1) := by decide +kernel
theorem dL_grip_9 : decode cL_grip 9 = .ok (.lastore, 1) := by decide +kernel
theorem dL_grip_10 : decode cL_grip 10 = .ok (.goto 11, 3) := by decide +kernel
theorem dL_grip_13 : decode cL_grip 13 = .ok (.astore 4, 2) := by decide +kernel
theorem dL_grip_15 : decode cL_grip 15 = .ok (.iconst 1, 1) := by decide +kernel
theorem dL_grip_16 : decode cL_grip 16 = .ok (.ireturn, 1) := by decide +kernel
theorem dL_grip_17 : decode cL_grip 17 = .ok (.astore 4, 2) := by decide +kernel
theorem dL_grip_19 : decode cL_grip 19 = .ok (.iconst 2, 1) := by decide +kernel
theorem dL_grip_20 : decode cL_grip 20 = .ok (.ireturn, 1) := by decide +kernel
theorem dL_grip_21 : decode cL_grip 21 = .ok (.iconst 0, 1) := by decide +kernel
theorem dL_grip_22 : decode cL_grip 22 = .ok (.ireturn, 1) := by decide +kernel
theorem dL_change_0 : decode cL_change 0 = .ok (.aload_n 3, 1) := by decide +kernel
theorem dL_change_1 : decode cL_change 1 = .ok (.iconst 0, 1) := by decide +kernel
theorem dL_change_2 : decode cL_change 2 = .ok (.aload_n 0, 1) := by decide +kernel
theorem dL_change_3 : decode cL_change 3 = .ok (.iload_n 1, 1) := by decide +kernel
theorem dL_change_4 : decode cL_change 4 = .ok (.iload_n 2, 1) := by decide +kernel
theorem dL_change_5 : decode cL_change 5 = .ok (.invokevirtual 52, 3) := by decide +kernel
theorem dL_change_8 : decode cL_change 8 = .ok (.i2l, 1) := by decide +kernel
theorem dL_change_9 : decode cL_change 9 = .ok (.lastore, 1) := by decide +kernel
theorem dL_change_10 : decode cL_change 10 = .ok (.goto 15, 3) := by decide +kernel
theorem dL_change_13 : decode cL_change 13 = .ok (.astore 4, 2) := by decide +kernel
theorem dL_change_15 : decode cL_change 15 = .ok (.iconst 1, 1) := by decide +kernel
theorem dL_change_16 : decode cL_change 16 = .ok (.ireturn, 1) := by decide +kernel
theorem dL_change_17 : decode cL_change 17 = .ok (.astore 4, 2) := by decide +kernel
theorem dL_change_19 : decode cL_change 19 = .ok (.iconst 2, 1) := by decide +kernel
theorem dL_change_20 : decode cL_change 20 = .ok (.ireturn, 1) := by decide +kernel
theorem dL_change_21 : decode cL_change 21 = .ok (.astore 4, 2) := by decide +kernel
theorem dL_change_23 : decode cL_change 23 = .ok (.iconst 3, 1) := by decide +kernel
theorem dL_change_24 : decode cL_change 24 = .ok (.ireturn, 1) := by decide +kernel
theorem dL_change_25 : decode cL_change 25 = .ok (.iconst 0, 1) := by decide +kernel
theorem dL_change_26 : decode cL_change 26 = .ok (.ireturn, 1) := by decide +kernel
theorem dL_cut_0 : decode cL_cut 0 = .ok (.aload_n 2, 1) := by decide +kernel
theorem dL_cut_1 : decode cL_cut 1 = .ok (.iconst 0, 1) := by decide +kernel
theorem dL_cut_2 : decode cL_cut 2 = .ok (.aload_n 0, 1) := by decide +kernel
theorem dL_cut_3 : decode cL_cut 3 = .ok (.iload_n 1, 1) := by decide +kernel
theorem dL_cut_4 : decode cL_cut 4 = .ok (.invokevirtual 55, 3) := by decide +kernel
theorem dL_cut_7 : decode cL_cut 7 = .ok (.i2l, 1) := by decide +kernel
theorem dL_cut_8 : decode cL_cut 8 = .ok (.lastore, 1) := by decide +kernel
theorem dL_cut_9 : decode cL_cut 9 = .ok (.goto 9, 3) := by decide +kernel
theorem dL_cut_12 : decode cL_cut 12 = .ok (.astore_n 3, 1) := by decide +kernel
theorem dL_cut_13 : decode cL_cut 13 = .ok (.iconst 1, 1) := by decide +kernel
theorem dL_cut_14 : decode cL_cut 14 = .ok (.ireturn, 1) := by decide +kernel
theorem dL_cut_15 : decode cL_cut 15 = .ok (.astore_n 3, 1) := by decide +kernel
theorem dL_cut_16 : decode cL_cut 16 = .ok (.iconst 2, 1) := by decide +kernel
theorem dL_cut_17 : decode cL_cut 17 = .ok (.ireturn, 1) := by decide +kernel
theorem dL_cut_18 : decode cL_cut 18 = .ok (.iconst 0, 1) := by decide +kernel
theorem dL_cut_19 : decode cL_cut 19 = .ok (.ireturn, 1) := by decide +kernel
theorem dL_moves_0 : decode cL_moves 0 = .ok (.aload_n 2, 1) := by decide +kernel
theorem dL_moves_1 : decode cL_moves 1 = .ok (.iconst 0, 1) := by decide +kernel
theorem dL_moves_2 : decode cL_moves 2 = .ok (.aload_n 0, 1) := by decide +kernel
theorem dL_moves_3 : decode cL_moves 3 = .ok (.iload_n 1, 1) := by decide +kernel
theorem dL_moves_4 : decode cL_moves 4 = .ok (.invokevirtual 58, 3) := by decide +kernel
theorem dL_moves_7 : decode cL_moves 7 = .ok (.i2l, 1) := by decide +kernel
theorem dL_moves_8 : decode cL_moves 8 = .ok (.lastore, 1) := by decide +kernel
theorem dL_moves_9 : decode cL_moves 9 = .ok (.goto 6, 3) := by decide +kernel
theorem dL_moves_12 : decode cL_moves 12 = .ok (.astore_n 3, 1) := by decide +kernel
theorem dL_moves_13 : decode cL_moves 13 = .ok (.iconst 1, 1) := by decide +kernel
theorem dL_moves_14 : decode cL_moves 14 = .ok (.ireturn, 1) := by decide +kernel
theorem dL_moves_15 : decode cL_moves 15 = .ok (.iconst 0, 1) := by decide +kernel
theorem dL_moves_16 : decode cL_moves 16 = .ok (.ireturn, 1) := by decide +kernel
theorem dL_first_0 : decode cL_first 0 = .ok (.aload_n 2, 1) := by decide +kernel
theorem dL_first_1 : decode cL_first 1 = .ok (.iconst 0, 1) := by decide +kernel
theorem dL_first_2 : decode cL_first 2 = .ok (.aload_n 0, 1) := by decide +kernel
theorem dL_first_3 : decode cL_first 3 = .ok (.iload_n 1, 1) := by decide +kernel
theorem dL_first_4 : decode cL_first 4 = .ok (.invokevirtual 61, 3) := by decide +kernel
theorem dL_first_7 : decode cL_first 7 = .ok (.i2l, 1) := by decide +kernel
theorem dL_first_8 : decode cL_first 8 = .ok (.lastore, 1) := by decide +kernel
theorem dL_first_9 : decode cL_first 9 = .ok (.goto 6, 3) := by decide +kernel
theorem dL_first_12 : decode cL_first 12 = .ok (.astore_n 3, 1) := by decide +kernel
theorem dL_first_13 : decode cL_first 13 = .ok (.iconst 1, 1) := by decide +kernel
theorem dL_first_14 : decode cL_first 14 = .ok (.ireturn, 1) := by decide +kernel
theorem dL_first_15 : decode cL_first 15 = .ok (.iconst 0, 1) := by decide +kernel
theorem dL_first_16 : decode cL_first 16 = .ok (.ireturn, 1) := by decide +kernel
theorem dL_can_0 : decode cL_can 0 = .ok (.aload_n 2, 1) := by decide +kernel
theorem dL_can_1 : decode cL_can 1 = .ok (.iconst 0, 1) := by decide +kernel
theorem dL_can_2 : decode cL_can 2 = .ok (.aload_n 0, 1) := by decide +kernel
theorem dL_can_3 : decode cL_can 3 = .ok (.iload_n 1, 1) := by decide +kernel
theorem dL_can_4 : decode cL_can 4 = .ok (.invokevirtual 64, 3) := by decide +kernel
theorem dL_can_7 : decode cL_can 7 = .ok (.i2l, 1) := by decide +kernel
theorem dL_can_8 : decode cL_can 8 = .ok (.lastore, 1) := by decide +kernel
theorem dL_can_9 : decode cL_can 9 = .ok (.goto 6, 3) := by decide +kernel
theorem dL_can_12 : decode cL_can 12 = .ok (.astore_n 3, 1) := by decide +kernel
theorem dL_can_13 : decode cL_can 13 = .ok (.iconst 1, 1) := by decide +kernel
theorem dL_can_14 : decode cL_can 14 = .ok (.ireturn, 1) := by decide +kernel
theorem dL_can_15 : decode cL_can 15 = .ok (.iconst 0, 1) := by decide +kernel
theorem dL_can_16 : decode cL_can 16 = .ok (.ireturn, 1) := by decide +kernel
theorem dL_feels_0 : decode cL_feels 0 = .ok (.aload_n 2, 1) := by decide +kernel
theorem dL_feels_1 : decode cL_feels 1 = .ok (.iconst 0, 1) := by decide +kernel
theorem dL_feels_2 : decode cL_feels 2 = .ok (.aload_n 0, 1) := by decide +kernel
theorem dL_feels_3 : decode cL_feels 3 = .ok (.iload_n 1, 1) := by decide +kernel
theorem dL_feels_4 : decode cL_feels 4 = .ok (.invokevirtual 67, 3) := by decide +kernel
theorem dL_feels_7 : decode cL_feels 7 = .ok (.i2l, 1) := by decide +kernel
theorem dL_feels_8 : decode cL_feels 8 = .ok (.lastore, 1) := by decide +kernel
theorem dL_feels_9 : decode cL_feels 9 = .ok (.goto 9, 3) := by decide +kernel
theorem dL_feels_12 : decode cL_feels 12 = .ok (.astore_n 3, 1) := by decide +kernel
theorem dL_feels_13 : decode cL_feels 13 = .ok (.iconst 1, 1) := by decide +kernel
theorem dL_feels_14 : decode cL_feels 14 = .ok (.ireturn, 1) := by decide +kernel
theorem dL_feels_15 : decode cL_feels 15 = .ok (.astore_n 3, 1) := by decide +kernel
theorem dL_feels_16 : decode cL_feels 16 = .ok (.iconst 2, 1) := by decide +kernel
theorem dL_feels_17 : decode cL_feels 17 = .ok (.ireturn, 1) := by decide +kernel
theorem dL_feels_18 : decode cL_feels 18 = .ok (.iconst 0, 1) := by decide +kernel
theorem dL_feels_19 : decode cL_feels 19 = .ok (.ireturn, 1) := by decide +kernel
theorem dL_odds_0 : decode cL_odds 0 = .ok (.aload_n 2, 1) := by decide +kernel
theorem dL_odds_1 : decode cL_odds 1 = .ok (.iconst 0, 1) := by decide +kernel
theorem dL_odds_2 : decode cL_odds 2 = .ok (.aload_n 0, 1) := by decide +kernel
theorem dL_odds_3 : decode cL_odds 3 = .ok (.iload_n 1, 1) := by decide +kernel
theorem dL_odds_4 : decode cL_odds 4 = .ok (.invokevirtual 70, 3) := by decide +kernel
theorem dL_odds_7 : decode cL_odds 7 = .ok (.i2l, 1) := by decide +kernel
theorem dL_odds_8 : decode cL_odds 8 = .ok (.lastore, 1) := by decide +kernel
theorem dL_odds_9 : decode cL_odds 9 = .ok (.goto 9, 3) := by decide +kernel
theorem dL_odds_12 : decode cL_odds 12 = .ok (.astore_n 3, 1) := by decide +kernel
theorem dL_odds_13 : decode cL_odds 13 = .ok (.iconst 1, 1) := by decide +kernel
theorem dL_odds_14 : decode cL_odds 14 = .ok (.ireturn, 1) := by decide +kernel
theorem dL_odds_15 : decode cL_odds 15 = .ok (.astore_n 3, 1) := by decide +kernel
theorem dL_odds_16 : decode cL_odds 16 = .ok (.iconst 2, 1) := by decide +kernel
theorem dL_odds_17 : decode cL_odds 17 = .ok (.ireturn, 1) := by decide +kernel
theorem dL_odds_18 : decode cL_odds 18 = .ok (.iconst 0, 1) := by decide +kernel
theorem dL_odds_19 : decode cL_odds 19 = .ok (.ireturn, 1) := by decide +kernel
theorem dL_ask_0 : decode cL_ask 0 = .ok (.aload_n 1, 1) := by decide +kernel
theorem dL_ask_1 : decode cL_ask 1 = .ok (.iconst 0, 1) := by decide +kernel
theorem dL_ask_2 : decode cL_ask 2 = .ok (.aload_n 0, 1) := by decide +kernel
theorem dL_ask_3 : decode cL_ask 3 = .ok (.invokevirtual 73, 3) := by decide +kernel
theorem dL_ask_6 : decode cL_ask 6 = .ok (.i2l, 1) := by decide +kernel
theorem dL_ask_7 : decode cL_ask 7 = .ok (.lastore, 1) := by decide +kernel
theorem dL_ask_8 : decode cL_ask 8 = .ok (.goto 6, 3) := by decide +kernel
theorem dL_ask_11 : decode cL_ask 11 = .ok (.astore_n 2, 1) := by decide +kernel
theorem dL_ask_12 : decode cL_ask 12 = .ok (.iconst 1, 1) := by decide +kernel
theorem dL_ask_13 : decode cL_ask 13 = .ok (.ireturn, 1) := by decide +kernel
theorem dL_ask_14 : decode cL_ask 14 = .ok (.iconst 0, 1) := by decide +kernel
theorem dL_ask_15 : decode cL_ask 15 = .ok (.ireturn, 1) := by decide +kernel
theorem dL_waits_0 : decode cL_waits 0 = .ok (.aload_n 2, 1) := by decide +kernel
theorem dL_waits_1 : decode cL_waits 1 = .ok (.iconst 0, 1) := by decide +kernel
theorem dL_waits_2 : decode cL_waits 2 = .ok (.aload_n 0, 1) := by decide +kernel
theorem dL_waits_3 : decode cL_waits 3 = .ok (.iload_n 1, 1) := by decide +kernel
theorem dL_waits_4 : decode cL_waits 4 = .ok (.invokevirtual 76, 3) := by decide +kernel
theorem dL_waits_7 : decode cL_waits 7 = .ok (.i2l, 1) := by decide +kernel
theorem dL_waits_8 : decode cL_waits 8 = .ok (.lastore, 1) := by decide +kernel
theorem dL_waits_9 : decode cL_waits 9 = .ok (.goto 6, 3) := by decide +kernel
theorem dL_waits_12 : decode cL_waits 12 = .ok (.astore_n 3, 1) := by decide +kernel
theorem dL_waits_13 : decode cL_waits 13 = .ok (.iconst 1, 1) := by decide +kernel
theorem dL_waits_14 : decode cL_waits 14 = .ok (.ireturn, 1) := by decide +kernel
theorem dL_waits_15 : decode cL_waits 15 = .ok (.iconst 0, 1) := by decide +kernel
theorem dL_waits_16 : decode cL_waits 16 = .ok (.ireturn, 1) := by decide +kernel
theorem dL_keep_0 : decode cL_keep 0 = .ok (.aload_n 2, 1) := by decide +kernel
theorem dL_keep_1 : decode cL_keep 1 = .ok (.iconst 0, 1) := by decide +kernel
theorem dL_keep_2 : decode cL_keep 2 = .ok (.aload_n 0, 1) := by decide +kernel
theorem dL_keep_3 : decode cL_keep 3 = .ok (.iload_n 1, 1) := by decide +kernel
theorem dL_keep_4 : decode cL_keep 4 = .ok (.invokevirtual 79, 3) := by decide +kernel
theorem dL_keep_7 : decode cL_keep 7 = .ok (.i2l, 1) := by decide +kernel
theorem dL_keep_8 : decode cL_keep 8 = .ok (.lastore, 1) := by decide +kernel
theorem dL_keep_9 : decode cL_keep 9 = .ok (.goto 6, 3) := by decide +kernel
theorem dL_keep_12 : decode cL_keep 12 = .ok (.astore_n 3, 1) := by decide +kernel
theorem dL_keep_13 : decode cL_keep 13 = .ok (.iconst 1, 1) := by decide +kernel
theorem dL_keep_14 : decode cL_keep 14 = .ok (.ireturn, 1) := by decide +kernel
theorem dL_keep_15 : decode cL_keep 15 = .ok (.iconst 0, 1) := by decide +kernel
theorem dL_keep_16 : decode cL_keep 16 = .ok (.ireturn, 1) := by decide +kernel
theorem dL_fates_0 : decode cL_fates 0 = .ok (.aload_n 2, 1) := by decide +kernel
theorem dL_fates_1 : decode cL_fates 1 = .ok (.iconst 0, 1) := by decide +kernel
theorem dL_fates_2 : decode cL_fates 2 = .ok (.aload_n 0, 1) := by decide +kernel
theorem dL_fates_3 : decode cL_fates 3 = .ok (.iload_n 1, 1) := by decide +kernel
theorem dL_fates_4 : decode cL_fates 4 = .ok (.invokevirtual 82, 3) := by decide +kernel
theorem dL_fates_7 : decode cL_fates 7 = .ok (.i2l, 1) := by decide +kernel
theorem dL_fates_8 : decode cL_fates 8 = .ok (.lastore, 1) := by decide +kernel
theorem dL_fates_9 : decode cL_fates 9 = .ok (.goto 6, 3) := by decide +kernel
theorem dL_fates_12 : decode cL_fates 12 = .ok (.astore_n 3, 1) := by decide +kernel
theorem dL_fates_13 : decode cL_fates 13 = .ok (.iconst 1, 1) := by decide +kernel
theorem dL_fates_14 : decode cL_fates 14 = .ok (.ireturn, 1) := by decide +kernel
theorem dL_fates_15 : decode cL_fates 15 = .ok (.iconst 0, 1) := by decide +kernel
theorem dL_fates_16 : decode cL_fates 16 = .ok (.ireturn, 1) := by decide +kernel
theorem dL_gives_0 : decode cL_gives 0 = .ok (.aload_n 2, 1) := by decide +kernel
theorem dL_gives_1 : decode cL_gives 1 = .ok (.iconst 0, 1) := by decide +kernel
theorem dL_gives_2 : decode cL_gives 2 = .ok (.aload_n 0, 1) := by decide +kernel
theorem dL_gives_3 : decode cL_gives 3 = .ok (.iload_n 1, 1) := by decide +kernel
theorem dL_gives_4 : decode cL_gives 4 = .ok (.invokevirtual 85, 3) := by decide +kernel
theorem dL_gives_7 : decode cL_gives 7 = .ok (.i2l, 1) := by decide +kernel
theorem dL_gives_8 : decode cL_gives 8 = .ok (.lastore, 1) := by decide +kernel
theorem dL_gives_9 : decode cL_gives 9 = .ok (.goto 6, 3) := by decide +kernel
theorem dL_gives_12 : decode cL_gives 12 = .ok (.astore_n 3, 1) := by decide +kernel
theorem dL_gives_13 : decode cL_gives 13 = .ok (.iconst 1, 1) := by decide +kernel
theorem dL_gives_14 : decode cL_gives 14 = .ok (.ireturn, 1) := by decide +kernel
theorem dL_gives_15 : decode cL_gives 15 = .ok (.iconst 0, 1) := by decide +kernel
theorem dL_gives_16 : decode cL_gives 16 = .ok (.ireturn, 1) := by decide +kernel
theorem dL_trade_0 : decode cL_trade 0 = .ok (.aload_n 2, 1) := by decide +kernel
theorem dL_trade_1 : decode cL_trade 1 = .ok (.iconst 0, 1) := by decide +kernel
theorem dL_trade_2 : decode cL_trade 2 = .ok (.aload_n 0, 1) := by decide +kernel
theorem dL_trade_3 : decode cL_trade 3 = .ok (.iload_n 1, 1) := by decide +kernel
theorem dL_trade_4 : decode cL_trade 4 = .ok (.invokevirtual 88, 3) := by decide +kernel
theorem dL_trade_7 : decode cL_trade 7 = .ok (.i2l, 1) := by decide +kernel
theorem dL_trade_8 : decode cL_trade 8 = .ok (.lastore, 1) := by decide +kernel
theorem dL_trade_9 : decode cL_trade 9 = .ok (.goto 6, 3) := by decide +kernel
theorem dL_trade_12 : decode cL_trade 12 = .ok (.astore_n 3, 1) := by decide +kernel
theorem dL_trade_13 : decode cL_trade 13 = .ok (.iconst 1, 1) := by decide +kernel
theorem dL_trade_14 : decode cL_trade 14 = .ok (.ireturn, 1) := by decide +kernel
theorem dL_trade_15 : decode cL_trade 15 = .ok (.iconst 0, 1) := by decide +kernel
theorem dL_trade_16 : decode cL_trade 16 = .ok (.ireturn, 1) := by decide +kernel
theorem dL_ring_0 : decode cL_ring 0 = .ok (.aload_n 2, 1) := by decide +kernel
theorem dL_ring_1 : decode cL_ring 1 = .ok (.iconst 0, 1) := by decide +kernel
theorem dL_ring_2 : decode cL_ring 2 = .ok (.aload_n 0, 1) := by decide +kernel
theorem dL_ring_3 : decode cL_ring 3 = .ok (.iload_n 1, 1) := by decide +kernel
theorem dL_ring_4 : decode cL_ring 4 = .ok (.invokevirtual 91, 3) := by decide +kernel
theorem dL_ring_7 : decode cL_ring 7 = .ok (.i2l, 1) := by decide +kernel
theorem dL_ring_8 : decode cL_ring 8 = .ok (.lastore, 1) := by decide +kernel
theorem dL_ring_9 : decode cL_ring 9 = .ok (.goto 6, 3) := by decide +kernel
theorem dL_ring_12 : decode cL_ring 12 = .ok (.astore_n 3, 1) := by decide +kernel
theorem dL_ring_13 : decode cL_ring 13 = .ok (.iconst 1, 1) := by decide +kernel
theorem dL_ring_14 : decode cL_ring 14 = .ok (.ireturn, 1) := by decide +kernel
theorem dL_ring_15 : decode cL_ring 15 = .ok (.iconst 0, 1) := by decide +kernel
theorem dL_ring_16 : decode cL_ring 16 = .ok (.ireturn, 1) := by decide +kernel
theorem dL_swap_0 : decode cL_swap 0 = .ok (.aload_n 3, 1) := by decide +kernel
theorem dL_swap_1 : decode cL_swap 1 = .ok (.iconst 0, 1) := by decide +kernel
theorem dL_swap_2 : decode cL_swap 2 = .ok (.aload_n 0, 1) := by decide +kernel
theorem dL_swap_3 : decode cL_swap 3 = .ok (.iload_n 1, 1) := by decide +kernel
theorem dL_swap_4 : decode cL_swap 4 = .ok (.iload_n 2, 1) := by decide +kernel
theorem dL_swap_5 : decode cL_swap 5 = .ok (.invokevirtual 94, 3) := by decide +kernel
theorem dL_swap_8 : decode cL_swap 8 = .ok (.ifCond .eq 7, 3) := by decide +kernel
theorem dL_swap_11 : decode cL_swap 11 = .ok (.lconst 1, 1) := by decide +kernel
theorem dL_swap_12 : decode cL_swap 12 = .ok (.goto 4, 3) := by decide +kernel
theorem dL_swap_15 : decode cL_swap 15 = .ok (.lconst 0, 1) := by decide +kernel
theorem dL_swap_16 : decode cL_swap 16 = .ok (.lastore, 1) := by decide +kernel
theorem dL_swap_17 : decode cL_swap 17 = .ok (.goto 11, 3) := by decide +kernel
theorem dL_swap_20 : decode cL_swap 20 = .ok (.astore 4, 2) := by decide +kernel
theorem dL_swap_22 : decode cL_swap 22 = .ok (.iconst 1, 1) := by decide +kernel
theorem dL_swap_23 : decode cL_swap 23 = .ok (.ireturn, 1) := by decide +kernel
theorem dL_swap_24 : decode cL_swap 24 = .ok (.astore 4, 2) := by decide +kernel
theorem dL_swap_26 : decode cL_swap 26 = .ok (.iconst 2, 1) := by decide +kernel
theorem dL_swap_27 : decode cL_swap 27 = .ok (.ireturn, 1) := by decide +kernel
theorem dL_swap_28 : decode cL_swap 28 = .ok (.iconst 0, 1) := by decide +kernel
theorem dL_swap_29 : decode cL_swap 29 = .ok (.ireturn, 1) := by decide +kernel
theorem dL_rules_0 : decode cL_rules 0 = .ok (.aload_n 2, 1) := by decide +kernel
theorem dL_rules_1 : decode cL_rules 1 = .ok (.iconst 0, 1) := by decide +kernel
theorem dL_rules_2 : decode cL_rules 2 = .ok (.aload_n 0, 1) := by decide +kernel
theorem dL_rules_3 : decode cL_rules 3 = .ok (.iload_n 1, 1) := by decide +kernel
theorem dL_rules_4 : decode cL_rules 4 = .ok (.invokevirtual 98, 3) := by decide +kernel
theorem dL_rules_7 : decode cL_rules 7 = .ok (.i2l, 1) := by decide +kernel
theorem dL_rules_8 : decode cL_rules 8 = .ok (.lastore, 1) := by decide +kernel
theorem dL_rules_9 : decode cL_rules 9 = .ok (.goto 6, 3) := by decide +kernel
theorem dL_rules_12 : decode cL_rules 12 = .ok (.astore_n 3, 1) := by decide +kernel
theorem dL_rules_13 : decode cL_rules 13 = .ok (.iconst 1, 1) := by decide +kernel
theorem dL_rules_14 : decode cL_rules 14 = .ok (.ireturn, 1) := by decide +kernel
theorem dL_rules_15 : decode cL_rules 15 = .ok (.iconst 0, 1) := by decide +kernel
theorem dL_rules_16 : decode cL_rules 16 = .ok (.ireturn, 1) := by decide +kernel
theorem dL_tell_0 : decode cL_tell 0 = .ok (.aload_n 1, 1) := by decide +kernel
theorem dL_tell_1 : decode cL_tell 1 = .ok (.iconst 0, 1) := by decide +kernel
theorem dL_tell_2 : decode cL_tell 2 = .ok (.aload_n 0, 1) := by decide +kernel
theorem dL_tell_3 : decode cL_tell 3 = .ok (.invokevirtual 102, 3) := by decide +kernel
theorem dL_tell_6 : decode cL_tell 6 = .ok (.i2l, 1) := by decide +kernel
theorem dL_tell_7 : decode cL_tell 7 = .ok (.lastore, 1) := by decide +kernel
theorem dL_tell_8 : decode cL_tell 8 = .ok (.goto 6, 3) := by decide +kernel
theorem dL_tell_11 : decode cL_tell 11 = .ok (.astore_n 2, 1) := by decide +kernel
theorem dL_tell_12 : decode cL_tell 12 = .ok (.iconst 1, 1) := by decide +kernel
theorem dL_tell_13 : decode cL_tell 13 = .ok (.ireturn, 1) := by decide +kernel
theorem dL_tell_14 : decode cL_tell 14 = .ok (.iconst 0, 1) := by decide +kernel
theorem dL_tell_15 : decode cL_tell 15 = .ok (.ireturn, 1) := by decide +kernel
theorem dL_rests_0 : decode cL_rests 0 = .ok (.aload_n 2, 1) := by decide +kernel
theorem dL_rests_1 : decode cL_rests 1 = .ok (.iconst 0, 1) := by decide +kernel
theorem dL_rests_2 : decode cL_rests 2 = .ok (.aload_n 0, 1) := by decide +kernel
theorem dL_rests_3 : decode cL_rests 3 = .ok (.iload_n 1, 1) := by decide +kernel
theorem dL_rests_4 : decode cL_rests 4 = .ok (.invokevirtual 105, 3) := by decide +kernel
theorem dL_rests_7 : decode cL_rests 7 = .ok (.i2l, 1) := by decide +kernel
theorem dL_rests_8 : decode cL_rests 8 = .ok (.lastore, 1) := by decide +kernel
theorem dL_rests_9 : decode cL_rests 9 = .ok (.goto 6, 3) := by decide +kernel
theorem dL_rests_12 : decode cL_rests 12 = .ok (.astore_n 3, 1) := by decide +kernel
theorem dL_rests_13 : decode cL_rests 13 = .ok (.iconst 1, 1) := by decide +kernel
theorem dL_rests_14 : decode cL_rests 14 = .ok (.ireturn, 1) := by decide +kernel
theorem dL_rests_15 : decode cL_rests 15 = .ok (.iconst 0, 1) := by decide +kernel
theorem dL_rests_16 : decode cL_rests 16 = .ok (.ireturn, 1) := by decide +kernel
theorem dL_nothing_0 : decode cL_nothing 0 = .ok (.aload_n 2, 1) := by decide +kernel
theorem dL_nothing_1 : decode cL_nothing 1 = .ok (.iconst 0, 1) := by decide +kernel
theorem dL_nothing_2 : decode cL_nothing 2 = .ok (.aload_n 0, 1) := by decide +kernel
theorem dL_nothing_3 : decode cL_nothing 3 = .ok (.iload_n 1, 1) := by decide +kernel
theorem dL_nothing_4 : decode cL_nothing 4 = .ok (.invokevirtual 108, 3) := by decide +kernel
theorem dL_nothing_7 : decode cL_nothing 7 = .ok (.i2l, 1) := by decide +kernel
theorem dL_nothing_8 : decode cL_nothing 8 = .ok (.lastore, 1) := by decide +kernel
theorem dL_nothing_9 : decode cL_nothing 9 = .ok (.goto 6, 3) := by decide +kernel
theorem dL_nothing_12 : decode cL_nothing 12 = .ok (.astore_n 3, 1) := by decide +kernel
theorem dL_nothing_13 : decode cL_nothing 13 = .ok (.iconst 1, 1) := by decide +kernel
theorem dL_nothing_14 : decode cL_nothing 14 = .ok (.ireturn, 1) := by decide +kernel
theorem dL_nothing_15 : decode cL_nothing 15 = .ok (.iconst 0, 1) := by decide +kernel
theorem dL_nothing_16 : decode cL_nothing 16 = .ok (.ireturn, 1) := by decide +kernel
theorem dL_ahead_0 : decode cL_ahead 0 = .ok (.aload_n 3, 1) := by decide +kernel
theorem dL_ahead_1 : decode cL_ahead 1 = .ok (.iconst 0, 1) := by decide +kernel
theorem dL_ahead_2 : decode cL_ahead 2 = .ok (.aload_n 0, 1) := by decide +kernel
theorem dL_ahead_3 : decode cL_ahead 3 = .ok (.iload_n 1, 1) := by decide +kernel
theorem dL_ahead_4 : decode cL_ahead 4 = .ok (.iload_n 2, 1) := by decide +kernel
theorem dL_ahead_5 : decode cL_ahead 5 = .ok (.invokevirtual 111, 3) := by decide +kernel
theorem dL_ahead_8 : decode cL_ahead 8 = .ok (.i2l, 1) := by decide +kernel
theorem dL_ahead_9 : decode cL_ahead 9 = .ok (.lastore, 1) := by decide +kernel
theorem dL_ahead_10 : decode cL_ahead 10 = .ok (.goto 11, 3) := by decide +kernel
theorem dL_ahead_13 : decode cL_ahead 13 = .ok (.astore 4, 2) := by decide +kernel
theorem dL_ahead_15 : decode cL_ahead 15 = .ok (.iconst 1, 1) := by decide +kernel
theorem dL_ahead_16 : decode cL_ahead 16 = .ok (.ireturn, 1) := by decide +kernel
theorem dL_ahead_17 : decode cL_ahead 17 = .ok (.astore 4, 2) := by decide +kernel
theorem dL_ahead_19 : decode cL_ahead 19 = .ok (.iconst 2, 1) := by decide +kernel
theorem dL_ahead_20 : decode cL_ahead 20 = .ok (.ireturn, 1) := by decide +kernel
theorem dL_ahead_21 : decode cL_ahead 21 = .ok (.iconst 0, 1) := by decide +kernel
theorem dL_ahead_22 : decode cL_ahead 22 = .ok (.ireturn, 1) := by decide +kernel
theorem dL_trial_0 : decode cL_trial 0 = .ok (.aload_n 3, 1) := by decide +kernel
theorem dL_trial_1 : decode cL_trial 1 = .ok (.iconst 0, 1) := by decide +kernel
theorem dL_trial_2 : decode cL_trial 2 = .ok (.aload_n 0, 1) := by decide +kernel
theorem dL_trial_3 : decode cL_trial 3 = .ok (.iload_n 1, 1) := by decide +kernel
theorem dL_trial_4 : decode cL_trial 4 = .ok (.iload_n 2, 1) := by decide +kernel
theorem dL_trial_5 : decode cL_trial 5 = .ok (.invokevirtual 114, 3) := by decide +kernel
theorem dL_trial_8 : decode cL_trial 8 = .ok (.i2l, 1) := by decide +kernel
theorem dL_trial_9 : decode cL_trial 9 = .ok (.lastore, 1) := by decide +kernel
theorem dL_trial_10 : decode cL_trial 10 = .ok (.goto 7, 3) := by decide +kernel
theorem dL_trial_13 : decode cL_trial 13 = .ok (.astore 4, 2) := by decide +kernel
theorem dL_trial_15 : decode cL_trial 15 = .ok (.iconst 1, 1) := by decide +kernel
theorem dL_trial_16 : decode cL_trial 16 = .ok (.ireturn, 1) := by decide +kernel
theorem dL_trial_17 : decode cL_trial 17 = .ok (.iconst 0, 1) := by decide +kernel
theorem dL_trial_18 : decode cL_trial 18 = .ok (.ireturn, 1) := by decide +kernel
theorem dL_span_0 : decode cL_span 0 = .ok (.aload_n 3, 1) := by decide +kernel
theorem dL_span_1 : decode cL_span 1 = .ok (.iconst 0, 1) := by decide +kernel
theorem dL_span_2 : decode cL_span 2 = .ok (.aload_n 0, 1) := by decide +kernel
theorem dL_span_3 : decode cL_span 3 = .ok (.iload_n 1, 1) := by decide +kernel
theorem dL_span_4 : decode cL_span 4 = .ok (.iload_n 2, 1) := by decide +kernel
theorem dL_span_5 : decode cL_span 5 = .ok (.invokevirtual 118, 3) := by decide +kernel
theorem dL_span_8 : decode cL_span 8 = .ok (.i2l, 1) := by decide +kernel
theorem dL_span_9 : decode cL_span 9 = .ok (.lastore, 1) := by decide +kernel
theorem dL_span_10 : decode cL_span 10 = .ok (.goto 7, 3) := by decide +kernel
theorem dL_span_13 : decode cL_span 13 = .ok (.astore 4, 2) := by decide +kernel
theorem dL_span_15 : decode cL_span 15 = .ok (.iconst 1, 1) := by decide +kernel
theorem dL_span_16 : decode cL_span 16 = .ok (.ireturn, 1) := by decide +kernel
theorem dL_span_17 : decode cL_span 17 = .ok (.iconst 0, 1) := by decide +kernel
theorem dL_span_18 : decode cL_span 18 = .ok (.ireturn, 1) := by decide +kernel
theorem dL_led_0 : decode cL_led 0 = .ok (.aload_n 3, 1) := by decide +kernel
theorem dL_led_1 : decode cL_led 1 = .ok (.iconst 0, 1) := by decide +kernel
theorem dL_led_2 : decode cL_led 2 = .ok (.aload_n 0, 1) := by decide +kernel
theorem dL_led_3 : decode cL_led 3 = .ok (.iload_n 1, 1) := by decide +kernel
theorem dL_led_4 : decode cL_led 4 = .ok (.iload_n 2, 1) := by decide +kernel
theorem dL_led_5 : decode cL_led 5 = .ok (.invokevirtual 121, 3) := by decide +kernel
theorem dL_led_8 : decode cL_led 8 = .ok (.i2l, 1) := by decide +kernel
theorem dL_led_9 : decode cL_led 9 = .ok (.lastore, 1) := by decide +kernel
theorem dL_led_10 : decode cL_led 10 = .ok (.goto 7, 3) := by decide +kernel
theorem dL_led_13 : decode cL_led 13 = .ok (.astore 4, 2) := by decide +kernel
theorem dL_led_15 : decode cL_led 15 = .ok (.iconst 1, 1) := by decide +kernel
theorem dL_led_16 : decode cL_led 16 = .ok (.ireturn, 1) := by decide +kernel
theorem dL_led_17 : decode cL_led 17 = .ok (.iconst 0, 1) := by decide +kernel
theorem dL_led_18 : decode cL_led 18 = .ok (.ireturn, 1) := by decide +kernel
theorem dL_log_0 : decode cL_log 0 = .ok (.aload_n 3, 1) := by decide +kernel
theorem dL_log_1 : decode cL_log 1 = .ok (.iconst 0, 1) := by decide +kernel
theorem dL_log_2 : decode cL_log 2 = .ok (.aload_n 0, 1) := by decide +kernel
theorem dL_log_3 : decode cL_log 3 = .ok (.iload_n 1, 1) := by decide +kernel
theorem dL_log_4 : decode cL_log 4 = .ok (.iload_n 2, 1) := by decide +kernel
theorem dL_log_5 : decode cL_log 5 = .ok (.invokevirtual 124, 3) := by decide +kernel
theorem dL_log_8 : decode cL_log 8 = .ok (.i2l, 1) := by decide +kernel
theorem dL_log_9 : decode cL_log 9 = .ok (.lastore, 1) := by decide +kernel
theorem dL_log_10 : decode cL_log 10 = .ok (.goto 7, 3) := by decide +kernel
theorem dL_log_13 : decode cL_log 13 = .ok (.astore 4, 2) := by decide +kernel
theorem dL_log_15 : decode cL_log 15 = .ok (.iconst 1, 1) := by decide +kernel
theorem dL_log_16 : decode cL_log 16 = .ok (.ireturn, 1) := by decide +kernel
theorem dL_log_17 : decode cL_log 17 = .ok (.iconst 0, 1) := by decide +kernel
theorem dL_log_18 : decode cL_log 18 = .ok (.ireturn, 1) := by decide +kernel
theorem dL_law__0 : decode cL_law_ 0 = .ok (.new 8, 3) := by decide +kernel
theorem dL_law__3 : decode cL_law_ 3 = .ok (.dup, 1) := by decide +kernel
theorem dL_law__4 : decode cL_law_ 4 = .ok (.invokespecial 127, 3) := by decide +kernel
theorem dL_law__7 : decode cL_law_ 7 = .ok (.astore_n 1, 1) := by decide +kernel
theorem dL_law__8 : decode cL_law_ 8 = .ok (.new 128, 3) := by decide +kernel
theorem dL_law__11 : decode cL_law_ 11 = .ok (.dup, 1) := by decide +kernel
theorem dL_law__12 : decode cL_law_ 12 = .ok (.invokespecial 130, 3) := by decide +kernel
theorem dL_law__15 : decode cL_law_ 15 = .ok (.astore_n 2, 1) := by decide +kernel
theorem dL_law__16 : decode cL_law_ 16 = .ok (.iconst 1, 1) := by decide +kernel
theorem dL_law__17 : decode cL_law_ 17 = .ok (.newarray .long, 2) := by decide +kernel
theorem dL_law__19 : decode cL_law_ 19 = .ok (.astore_n 3, 1) := by decide +kernel
theorem dL_law__20 : decode cL_law_ 20 = .ok (.iconst 0, 1) := by decide +kernel
theorem dL_law__21 : decode cL_law_ 21 = .ok (.istore 4, 2) := by decide +kernel
theorem dL_law__23 : decode cL_law_ 23 = .ok (.iload 4, 2) := by decide +kernel
theorem dL_law__25 : decode cL_law_ 25 = .ok (.aload_n 0, 1) := by decide +kernel
theorem dL_law__26 : decode cL_law_ 26 = .ok (.arraylength, 1) := by decide +kernel
theorem dL_law__27 : decode cL_law_ 27 = .ok (.bipush 6, 2) := by decide +kernel
theorem dL_law__29 : decode cL_law_ 29 = .ok (.isub, 1) := by decide +kernel
theorem dL_law__30 : decode cL_law_ 30 = .ok (.if_icmp .gt 2661, 3) := by decide +kernel
theorem dL_law__33 : decode cL_law_ 33 = .ok (.aload_n 0, 1) := by decide +kernel
theorem dL_law__34 : decode cL_law_ 34 = .ok (.iload 4, 2) := by decide +kernel
theorem dL_law__36 : decode cL_law_ 36 = .ok (.iaload, 1) := by decide +kernel
theorem dL_law__37 : decode cL_law_ 37 = .ok (.bipush 63, 2) := by decide +kernel
theorem dL_law__39 : decode cL_law_ 39 = .ok (.iand, 1) := by decide +kernel
theorem dL_law__40 : decode cL_law_ 40 = .ok (.tableswitch 2645 0 53 #[232, 305, 330, 374, 418, 431, 499, 567, 623, 667, 735, 791, 859, 927, 995, 1051, 1107, 1163, 1219, 1275, 1331, 1375, 1431, 1444, 1500, 1556, 1569, 1625, 1681, 1737, 1812, 1825, 1838, 1851, 1923, 1967, 2023, 2079, 2092, 2105, 2118, 2131, 2144, 2157, 2170, 2238, 2322, 2406, 2490, 2558, 2583, 2596, 2607, 2620], 232) := by decide +kernel
theorem dL_law__272 : decode cL_law_ 272 = .ok (.aload_n 1, 1) := by decide +kernel
theorem dL_law__273 : decode cL_law_ 273 = .ok (.aload_n 0, 1) := by decide +kernel
theorem dL_law__274 : decode cL_law_ 274 = .ok (.iload 4, 2) := by decide +kernel
theorem dL_law__276 : decode cL_law_ 276 = .ok (.iconst 1, 1) := by decide +kernel
theorem dL_law__277 : decode cL_law_ 277 = .ok (.iadd, 1) := by decide +kernel
theorem dL_law__278 : decode cL_law_ 278 = .ok (.iaload, 1) := by decide +kernel
theorem dL_law__279 : decode cL_law_ 279 = .ok (.aload_n 0, 1) := by decide +kernel
theorem dL_law__280 : decode cL_law_ 280 = .ok (.iload 4, 2) := by decide +kernel
theorem dL_law__282 : decode cL_law_ 282 = .ok (.iconst 2, 1) := by decide +kernel
theorem dL_law__283 : decode cL_law_ 283 = .ok (.iadd, 1) := by decide +kernel
theorem dL_law__284 : decode cL_law_ 284 = .ok (.iaload, 1) := by decide +kernel
theorem dL_law__285 : decode cL_law_ 285 = .ok (.aload_n 0, 1) := by decide +kernel
theorem dL_law__286 : decode cL_law_ 286 = .ok (.iload 4, 2) := by decide +kernel
theorem dL_law__288 : decode cL_law_ 288 = .ok (.iconst 3, 1) := by decide +kernel
theorem dL_law__289 : decode cL_law_ 289 = .ok (.iadd, 1) := by decide +kernel
theorem dL_law__290 : decode cL_law_ 290 = .ok (.iaload, 1) := by decide +kernel
theorem dL_law__291 : decode cL_law_ 291 = .ok (.aload_n 0, 1) := by decide +kernel
theorem dL_law__292 : decode cL_law_ 292 = .ok (.iload 4, 2) := by decide +kernel
theorem dL_law__294 : decode cL_law_ 294 = .ok (.iconst 4, 1) := by decide +kernel
theorem dL_law__295 : decode cL_law_ 295 = .ok (.iadd, 1) := by decide +kernel
theorem dL_law__296 : decode cL_law_ 296 = .ok (.iaload, 1) := by decide +kernel
theorem dL_law__297 : decode cL_law_ 297 = .ok (.aload_n 0, 1) := by decide +kernel
theorem dL_law__298 : decode cL_law_ 298 = .ok (.iload 4, 2) := by decide +kernel
theorem dL_law__300 : decode cL_law_ 300 = .ok (.iconst 5, 1) := by decide +kernel
theorem dL_law__301 : decode cL_law_ 301 = .ok (.iadd, 1) := by decide +kernel
theorem dL_law__302 : decode cL_law_ 302 = .ok (.iaload, 1) := by decide +kernel
theorem dL_law__303 : decode cL_law_ 303 = .ok (.invokevirtual 131, 3) := by decide +kernel
theorem dL_law__306 : decode cL_law_ 306 = .ok (.aload_n 2, 1) := by decide +kernel
theorem dL_law__307 : decode cL_law_ 307 = .ok (.aload_n 0, 1) := by decide +kernel
theorem dL_law__308 : decode cL_law_ 308 = .ok (.iload 4, 2) := by decide +kernel
theorem dL_law__310 : decode cL_law_ 310 = .ok (.iconst 1, 1) := by decide +kernel
theorem dL_law__311 : decode cL_law_ 311 = .ok (.iadd, 1) := by decide +kernel
theorem dL_law__312 : decode cL_law_ 312 = .ok (.iaload, 1) := by decide +kernel
theorem dL_law__313 : decode cL_law_ 313 = .ok (.aload_n 0, 1) := by decide +kernel
theorem dL_law__314 : decode cL_law_ 314 = .ok (.iload 4, 2) := by decide +kernel
theorem dL_law__316 : decode cL_law_ 316 = .ok (.iconst 2, 1) := by decide +kernel
theorem dL_law__317 : decode cL_law_ 317 = .ok (.iadd, 1) := by decide +kernel
theorem dL_law__318 : decode cL_law_ 318 = .ok (.iaload, 1) := by decide +kernel
theorem dL_law__319 : decode cL_law_ 319 = .ok (.aload_n 0, 1) := by decide +kernel
theorem dL_law__320 : decode cL_law_ 320 = .ok (.iload 4, 2) := by decide +kernel
theorem dL_law__322 : decode cL_law_ 322 = .ok (.iconst 3, 1) := by decide +kernel
theorem dL_law__323 : decode cL_law_ 323 = .ok (.iadd, 1) := by decide +kernel
theorem dL_law__324 : decode cL_law_ 324 = .ok (.iaload, 1) := by decide +kernel
theorem dL_law__325 : decode cL_law_ 325 = .ok (.aload_n 0, 1) := by decide +kernel
theorem dL_law__326 : decode cL_law_ 326 = .ok (.iload 4, 2) := by decide +kernel
theorem dL_law__328 : decode cL_law_ 328 = .ok (.iconst 4, 1) := by decide +kernel
theorem dL_law__329 : decode cL_law_ 329 = .ok (.iadd, 1) := by decide +kernel
theorem dL_law__330 : decode cL_law_ 330 = .ok (.iaload, 1) := by decide +kernel
theorem dL_law__331 : decode cL_law_ 331 = .ok (.aload_n 0, 1) := by decide +kernel
theorem dL_law__332 : decode cL_law_ 332 = .ok (.iload 4, 2) := by decide +kernel
theorem dL_law__334 : decode cL_law_ 334 = .ok (.iconst 5, 1) := by decide +kernel
theorem dL_law__335 : decode cL_law_ 335 = .ok (.iadd, 1) := by decide +kernel
theorem dL_law__336 : decode cL_law_ 336 = .ok (.iaload, 1) := by decide +kernel
theorem dL_law__337 : decode cL_law_ 337 = .ok (.invokevirtual 135, 3) := by decide +kernel
theorem dL_law__340 : decode cL_law_ 340 = .ok (.if_icmp .eq 2345, 3) := by decide +kernel
theorem dL_law__343 : decode cL_law_ 343 = .ok (.iconst 0, 1) := by decide +kernel
theorem dL_law__344 : decode cL_law_ 344 = .ok (.ireturn, 1) := by decide +kernel
theorem dL_law__345 : decode cL_law_ 345 = .ok (.aload_n 1, 1) := by decide +kernel
theorem dL_law__346 : decode cL_law_ 346 = .ok (.aload_n 0, 1) := by decide +kernel
theorem dL_law__347 : decode cL_law_ 347 = .ok (.iload 4, 2) := by decide +kernel
theorem dL_law__349 : decode cL_law_ 349 = .ok (.iconst 1, 1) := by decide +kernel
theorem dL_law__350 : decode cL_law_ 350 = .ok (.iadd, 1) := by decide +kernel
theorem dL_law__351 : decode cL_law_ 351 = .ok (.iaload, 1) := by decide +kernel
theorem dL_law__352 : decode cL_law_ 352 = .ok (.invokevirtual 136, 3) := by decide +kernel
theorem dL_law__355 : decode cL_law_ 355 = .ok (.aload_n 2, 1) := by decide +kernel
theorem dL_law__356 : decode cL_law_ 356 = .ok (.aload_n 0, 1) := by decide +kernel
theorem dL_law__357 : decode cL_law_ 357 = .ok (.iload 4, 2) := by decide +kernel
theorem dL_law__359 : decode cL_law_ 359 = .ok (.iconst 1, 1) := by decide +kernel
theorem dL_law__360 : decode cL_law_ 360 = .ok (.iadd, 1) := by decide +kernel
theorem dL_law__361 : decode cL_law_ 361 = .ok (.iaload, 1) := by decide +kernel
theorem dL_law__362 : decode cL_law_ 362 = .ok (.invokevirtual 140, 3) := by decide +kernel
theorem dL_law__365 : decode cL_law_ 365 = .ok (.if_icmp .eq 2320, 3) := by decide +kernel
theorem dL_law__368 : decode cL_law_ 368 = .ok (.iconst 0, 1) := by decide +kernel
theorem dL_law__369 : decode cL_law_ 369 = .ok (.ireturn, 1) := by decide +kernel
theorem dL_law__370 : decode cL_law_ 370 = .ok (.aload_n 1, 1) := by decide +kernel
theorem dL_law__371 : decode cL_law_ 371 = .ok (.aload_n 3, 1) := by decide +kernel
theorem dL_law__372 : decode cL_law_ 372 = .ok (.invokestatic 141, 3) := by decide +kernel
theorem dL_law__375 : decode cL_law_ 375 = .ok (.istore 5, 2) := by decide +kernel
theorem dL_law__377 : decode cL_law_ 377 = .ok (.aload_n 2, 1) := by decide +kernel
theorem dL_law__378 : decode cL_law_ 378 = .ok (.invokevirtual 146, 3) := by decide +kernel
theorem dL_law__381 : decode cL_law_ 381 = .ok (.istore 6, 2) := by decide +kernel
theorem dL_law__383 : decode cL_law_ 383 = .ok (.aload_n 2, 1) := by decide +kernel
theorem dL_law__384 : decode cL_law_ 384 = .ok (.invokevirtual 147, 3) := by decide +kernel
theorem dL_law__387 : decode cL_law_ 387 = .ok (.iload 5, 2) := by decide +kernel
theorem dL_law__389 : decode cL_law_ 389 = .ok (.if_icmp .eq 5, 3) := by decide +kernel
theorem dL_law__392 : decode cL_law_ 392 = .ok (.iconst 0, 1) := by decide +kernel
theorem dL_law__393 : decode cL_law_ 393 = .ok (.ireturn, 1) := by decide +kernel
theorem dL_law__394 : decode cL_law_ 394 = .ok (.iload 5, 2) := by decide +kernel
theorem dL_law__396 : decode cL_law_ 396 = .ok (.ifCond .ne 15, 3) := by decide +kernel
theorem dL_law__399 : decode cL_law_ 399 = .ok (.aload_n 3, 1) := by decide +kernel
theorem dL_law__400 : decode cL_law_ 400 = .ok (.iconst 0, 1) := by decide +kernel
theorem dL_law__401 : decode cL_law_ 401 = .ok (.laload, 1) := by decide +kernel
theorem dL_law__402 : decode cL_law_ 402 = .ok (.iload 6, 2) := by decide +kernel
theorem dL_law__404 : decode cL_law_ 404 = .ok (.i2l, 1) := by decide +kernel
theorem dL_law__405 : decode cL_law_ 405 = .ok (.lcmp, 1) := by decide +kernel
theorem dL_law__406 : decode cL_law_ 406 = .ok (.ifCond .eq 5, 3) := by decide +kernel
theorem dL_law__409 : decode cL_law_ 409 = .ok (.iconst 0, 1) := by decide +kernel
theorem dL_law__410 : decode cL_law_ 410 = .ok (.ireturn, 1) := by decide +kernel
theorem dL_law__411 : decode cL_law_ 411 = .ok (.goto 2274, 3) := by decide +kernel
theorem dL_law__414 : decode cL_law_ 414 = .ok (.aload_n 1, 1) := by decide +kernel
theorem dL_law__415 : decode cL_law_ 415 = .ok (.aload_n 3, 1) := by decide +kernel
theorem dL_law__416 : decode cL_law_ 416 = .ok (.invokestatic 150, 3) := by decide +kernel
theorem dL_law__419 : decode cL_law_ 419 = .ok (.istore 5, 2) := by decide +kernel
theorem dL_law__421 : decode cL_law_ 421 = .ok (.aload_n 2, 1) := by decide +kernel
theorem dL_law__422 : decode cL_law_ 422 = .ok (.invokevirtual 152, 3) := by decide +kernel
theorem dL_law__425 : decode cL_law_ 425 = .ok (.istore 6, 2) := by decide +kernel
theorem dL_law__427 : decode cL_law_ 427 = .ok (.aload_n 2, 1) := by decide +kernel
theorem dL_law__428 : decode cL_law_ 428 = .ok (.invokevirtual 147, 3) := by decide +kernel
theorem dL_law__431 : decode cL_law_ 431 = .ok (.iload 5, 2) := by decide +kernel
theorem dL_law__433 : decode cL_law_ 433 = .ok (.if_icmp .eq 5, 3) := by decide +kernel
theorem dL_law__436 : decode cL_law_ 436 = .ok (.iconst 0, 1) := by decide +kernel
theorem dL_law__437 : decode cL_law_ 437 = .ok (.ireturn, 1) := by decide +kernel
theorem dL_law__438 : decode cL_law_ 438 = .ok (.iload 5, 2) := by decide +kernel
theorem dL_law__440 : decode cL_law_ 440 = .ok (.ifCond .ne 15, 3) := by decide +kernel
theorem dL_law__443 : decode cL_law_ 443 = .ok (.aload_n 3, 1) := by decide +kernel
theorem dL_law__444 : decode cL_law_ 444 = .ok (.iconst 0, 1) := by decide +kernel
theorem dL_law__445 : decode cL_law_ 445 = .ok (.laload, 1) := by decide +kernel
theorem dL_law__446 : decode cL_law_ 446 = .ok (.iload 6, 2) := by decide +kernel
theorem dL_law__448 : decode cL_law_ 448 = .ok (.i2l, 1) := by decide +kernel
theorem dL_law__449 : decode cL_law_ 449 = .ok (.lcmp, 1) := by decide +kernel
theorem dL_law__450 : decode cL_law_ 450 = .ok (.ifCond .eq 5, 3) := by decide +kernel
theorem dL_law__453 : decode cL_law_ 453 = .ok (.iconst 0, 1) := by decide +kernel
theorem dL_law__454 : decode cL_law_ 454 = .ok (.ireturn, 1) := by decide +kernel
theorem dL_law__455 : decode cL_law_ 455 = .ok (.goto 2230, 3) := by decide +kernel
theorem dL_law__458 : decode cL_law_ 458 = .ok (.aload_n 1, 1) := by decide +kernel
theorem dL_law__459 : decode cL_law_ 459 = .ok (.invokevirtual 153, 3) := by decide +kernel
theorem dL_law__462 : decode cL_law_ 462 = .ok (.aload_n 2, 1) := by decide +kernel
theorem dL_law__463 : decode cL_law_ 463 = .ok (.invokevirtual 156, 3) := by decide +kernel
theorem dL_law__466 : decode cL_law_ 466 = .ok (.if_icmp .eq 2219, 3) := by decide +kernel
theorem dL_law__469 : decode cL_law_ 469 = .ok (.iconst 0, 1) := by decide +kernel
theorem dL_law__470 : decode cL_law_ 470 = .ok (.ireturn, 1) := by decide +kernel
theorem dL_law__471 : decode cL_law_ 471 = .ok (.aload_n 1, 1) := by decide +kernel
theorem dL_law__472 : decode cL_law_ 472 = .ok (.aload_n 0, 1) := by decide +kernel
theorem dL_law__473 : decode cL_law_ 473 = .ok (.iload 4, 2) := by decide +kernel
theorem dL_law__475 : decode cL_law_ 475 = .ok (.iconst 1, 1) := by decide +kernel
theorem dL_law__476 : decode cL_law_ 476 = .ok (.iadd, 1) := by decide +kernel
theorem dL_law__477 : decode cL_law_ 477 = .ok (.iaload, 1) := by decide +kernel
theorem dL_law__478 : decode cL_law_ 478 = .ok (.aload_n 0, 1) := by decide +kernel
theorem dL_law__479 : decode cL_law_ 479 = .ok (.iload 4, 2) := by decide +kernel
theorem dL_law__481 : decode cL_law_ 481 = .ok (.iconst 2, 1) := by decide +kernel
theorem dL_law__482 : decode cL_law_ 482 = .ok (.iadd, 1) := by decide +kernel
theorem dL_law__483 : decode cL_law_ 483 = .ok (.iaload, 1) := by decide +kernel
theorem dL_law__484 : decode cL_law_ 484 = .ok (.aload_n 3, 1) := by decide +kernel
theorem dL_law__485 : decode cL_law_ 485 = .ok (.invokestatic 157, 3) := by decide +kernel
theorem dL_law__488 : decode cL_law_ 488 = .ok (.istore 5, 2) := by decide +kernel
theorem dL_law__490 : decode cL_law_ 490 = .ok (.aload_n 2, 1) := by decide +kernel
theorem dL_law__491 : decode cL_law_ 491 = .ok (.aload_n 0, 1) := by decide +kernel
theorem dL_law__492 : decode cL_law_ 492 = .ok (.iload 4, 2) := by decide +kernel
theorem dL_law__494 : decode cL_law_ 494 = .ok (.iconst 1, 1) := by decide +kernel
theorem dL_law__495 : decode cL_law_ 495 = .ok (.iadd, 1) := by decide +kernel
theorem dL_law__496 : decode cL_law_ 496 = .ok (.iaload, 1) := by decide +kernel
theorem dL_law__497 : decode cL_law_ 497 = .ok (.aload_n 0, 1) := by decide +kernel
theorem dL_law__498 : decode cL_law_ 498 = .ok (.iload 4, 2) := by decide +kernel
theorem dL_law__500 : decode cL_law_ 500 = .ok (.iconst 2, 1) := by decide +kernel
theorem dL_law__501 : decode cL_law_ 501 = .ok (.iadd, 1) := by decide +kernel
theorem dL_law__502 : decode cL_law_ 502 = .ok (.iaload, 1) := by decide +kernel
theorem dL_law__503 : decode cL_law_ 503 = .ok (.invokevirtual 160, 3) := by decide +kernel
theorem dL_law__506 : decode cL_law_ 506 = .ok (.istore 6, 2) := by decide +kernel
theorem dL_law__508 : decode cL_law_ 508 = .ok (.aload_n 2, 1) := by decide +kernel
theorem dL_law__509 : decode cL_law_ 509 = .ok (.invokevirtual 147, 3) := by decide +kernel
theorem dL_law__512 : decode cL_law_ 512 = .ok (.iload 5, 2) := by decide +kernel
theorem dL_law__514 : decode cL_law_ 514 = .ok (.if_icmp .eq 5, 3) := by decide +kernel
theorem dL_law__517 : decode cL_law_ 517 = .ok (.iconst 0, 1) := by decide +kernel
theorem dL_law__518 : decode cL_law_ 518 = .ok (.ireturn, 1) := by decide +kernel
theorem dL_law__519 : decode cL_law_ 519 = .ok (.iload 5, 2) := by decide +kernel
theorem dL_law__521 : decode cL_law_ 521 = .ok (.ifCond .ne 15, 3) := by decide +kernel
theorem dL_law__524 : decode cL_law_ 524 = .ok (.aload_n 3, 1) := by decide +kernel
theorem dL_law__525 : decode cL_law_ 525 = .ok (.iconst 0, 1) := by decide +kernel
theorem dL_law__526 : decode cL_law_ 526 = .ok (.laload, 1) := by decide +kernel
theorem dL_law__527 : decode cL_law_ 527 = .ok (.iload 6, 2) := by decide +kernel
theorem dL_law__529 : decode cL_law_ 529 = .ok (.i2l, 1) := by decide +kernel
theorem dL_law__530 : decode cL_law_ 530 = .ok (.lcmp, 1) := by decide +kernel
theorem dL_law__531 : decode cL_law_ 531 = .ok (.ifCond .eq 5, 3) := by decide +kernel
theorem dL_law__534 : decode cL_law_ 534 = .ok (.iconst 0, 1) := by decide +kernel
theorem dL_law__535 : decode cL_law_ 535 = .ok (.ireturn, 1) := by decide +kernel
theorem dL_law__536 : decode cL_law_ 536 = .ok (.goto 2149, 3) := by decide +kernel
theorem dL_law__539 : decode cL_law_ 539 = .ok (.aload_n 1, 1) := by decide +kernel
theorem dL_law__540 : decode cL_law_ 540 = .ok (.aload_n 0, 1) := by decide +kernel
theorem dL_law__541 : decode cL_law_ 541 = .ok (.iload 4, 2) := by decide +kernel
theorem dL_law__543 : decode cL_law_ 543 = .ok (.iconst 1, 1) := by decide +kernel
theorem dL_law__544 : decode cL_law_ 544 = .ok (.iadd, 1) := by decide +kernel
theorem dL_law__545 : decode cL_law_ 545 = .ok (.iaload, 1) := by decide +kernel
theorem dL_law__546 : decode cL_law_ 546 = .ok (.aload_n 0, 1) := by decide +kernel
theorem dL_law__547 : decode cL_law_ 547 = .ok (.iload 4, 2) := by decide +kernel
theorem dL_law__549 : decode cL_law_ 549 = .ok (.iconst 2, 1) := by decide +kernel
theorem dL_law__550 : decode cL_law_ 550 = .ok (.iadd, 1) := by decide +kernel
theorem dL_law__551 : decode cL_law_ 551 = .ok (.iaload, 1) := by decide +kernel
theorem dL_law__552 : decode cL_law_ 552 = .ok (.aload_n 3, 1) := by decide +kernel
theorem dL_law__553 : decode cL_law_ 553 = .ok (.invokestatic 161, 3) := by decide +kernel
theorem dL_law__556 : decode cL_law_ 556 = .ok (.istore 5, 2) := by decide +kernel
theorem dL_law__558 : decode cL_law_ 558 = .ok (.aload_n 2, 1) := by decide +kernel
theorem dL_law__559 : decode cL_law_ 559 = .ok (.aload_n 0, 1) := by decide +kernel
theorem dL_law__560 : decode cL_law_ 560 = .ok (.iload 4, 2) := by decide +kernel
theorem dL_law__562 : decode cL_law_ 562 = .ok (.iconst 1, 1) := by decide +kernel
theorem dL_law__563 : decode cL_law_ 563 = .ok (.iadd, 1) := by decide +kernel
theorem dL_law__564 : decode cL_law_ 564 = .ok (.iaload, 1) := by decide +kernel
theorem dL_law__565 : decode cL_law_ 565 = .ok (.aload_n 0, 1) := by decide +kernel
theorem dL_law__566 : decode cL_law_ 566 = .ok (.iload 4, 2) := by decide +kernel
theorem dL_law__568 : decode cL_law_ 568 = .ok (.iconst 2, 1) := by decide +kernel
theorem dL_law__569 : decode cL_law_ 569 = .ok (.iadd, 1) := by decide +kernel
theorem dL_law__570 : decode cL_law_ 570 = .ok (.iaload, 1) := by decide +kernel
theorem dL_law__571 : decode cL_law_ 571 = .ok (.invokevirtual 163, 3) := by decide +kernel
theorem dL_law__574 : decode cL_law_ 574 = .ok (.istore 6, 2) := by decide +kernel
theorem dL_law__576 : decode cL_law_ 576 = .ok (.aload_n 2, 1) := by decide +kernel
theorem dL_law__577 : decode cL_law_ 577 = .ok (.invokevirtual 147, 3) := by decide +kernel
theorem dL_law__580 : decode cL_law_ 580 = .ok (.iload 5, 2) := by decide +kernel
theorem dL_law__582 : decode cL_law_ 582 = .ok (.if_icmp .eq 5, 3) := by decide +kernel
theorem dL_law__585 : decode cL_law_ 585 = .ok (.iconst 0, 1) := by decide +kernel
theorem dL_law__586 : decode cL_law_ 586 = .ok (.ireturn, 1) := by decide +kernel
theorem dL_law__587 : decode cL_law_ 587 = .ok (.iload 5, 2) := by decide +kernel
theorem dL_law__589 : decode cL_law_ 589 = .ok (.ifCond .ne 15, 3) := by decide +kernel
theorem dL_law__592 : decode cL_law_ 592 = .ok (.aload_n 3, 1) := by decide +kernel
theorem dL_law__593 : decode cL_law_ 593 = .ok (.iconst 0, 1) := by decide +kernel
theorem dL_law__594 : decode cL_law_ 594 = .ok (.laload, 1) := by decide +kernel
theorem dL_law__595 : decode cL_law_ 595 = .ok (.iload 6, 2) := by decide +kernel
theorem dL_law__597 : decode cL_law_ 597 = .ok (.i2l, 1) := by decide +kernel
theorem dL_law__598 : decode cL_law_ 598 = .ok (.lcmp, 1) := by decide +kernel
theorem dL_law__599 : decode cL_law_ 599 = .ok (.ifCond .eq 5, 3) := by decide +kernel
theorem dL_law__602 : decode cL_law_ 602 = .ok (.iconst 0, 1) := by decide +kernel
theorem dL_law__603 : decode cL_law_ 603 = .ok (.ireturn, 1) := by decide +kernel
theorem dL_law__604 : decode cL_law_ 604 = .ok (.goto 2081, 3) := by decide +kernel
theorem dL_law__607 : decode cL_law_ 607 = .ok (.aload_n 1, 1) := by decide +kernel
theorem dL_law__608 : decode cL_law_ 608 = .ok (.aload_n 0, 1) := by decide +kernel
theorem dL_law__609 : decode cL_law_ 609 = .ok (.iload 4, 2) := by decide +kernel
theorem dL_law__611 : decode cL_law_ 611 = .ok (.iconst 1, 1) := by decide +kernel
theorem dL_law__612 : decode cL_law_ 612 = .ok (.iadd, 1) := by decide +kernel
theorem dL_law__613 : decode cL_law_ 613 = .ok (.iaload, 1) := by decide +kernel
theorem dL_law__614 : decode cL_law_ 614 = .ok (.aload_n 3, 1) := by decide +kernel
theorem dL_law__615 : decode cL_law_ 615 = .ok (.invokestatic 164, 3) := by decide +kernel
theorem dL_law__618 : decode cL_law_ 618 = .ok (.istore 5, 2) := by decide +kernel
theorem dL_law__620 : decode cL_law_ 620 = .ok (.aload_n 2, 1) := by decide +kernel
theorem dL_law__621 : decode cL_law_ 621 = .ok (.aload_n 0, 1) := by decide +kernel
theorem dL_law__622 : decode cL_law_ 622 = .ok (.iload 4, 2) := by decide +kernel
theorem dL_law__624 : decode cL_law_ 624 = .ok (.iconst 1, 1) := by decide +kernel
theorem dL_law__625 : decode cL_law_ 625 = .ok (.iadd, 1) := by decide +kernel
theorem dL_law__626 : decode cL_law_ 626 = .ok (.iaload, 1) := by decide +kernel
theorem dL_law__627 : decode cL_law_ 627 = .ok (.invokevirtual 167, 3) := by decide +kernel
theorem dL_law__630 : decode cL_law_ 630 = .ok (.istore 6, 2) := by decide +kernel
theorem dL_law__632 : decode cL_law_ 632 = .ok (.aload_n 2, 1) := by decide +kernel
theorem dL_law__633 : decode cL_law_ 633 = .ok (.invokevirtual 147, 3) := by decide +kernel
theorem dL_law__636 : decode cL_law_ 636 = .ok (.iload 5, 2) := by decide +kernel
theorem dL_law__638 : decode cL_law_ 638 = .ok (.if_icmp .eq 5, 3) := by decide +kernel
theorem dL_law__641 : decode cL_law_ 641 = .ok (.iconst 0, 1) := by decide +kernel
theorem dL_law__642 : decode cL_law_ 642 = .ok (.ireturn, 1) := by decide +kernel
theorem dL_law__643 : decode cL_law_ 643 = .ok (.iload 5, 2) := by decide +kernel
theorem dL_law__645 : decode cL_law_ 645 = .ok (.ifCond .ne 15, 3) := by decide +kernel
theorem dL_law__648 : decode cL_law_ 648 = .ok (.aload_n 3, 1) := by decide +kernel
theorem dL_law__649 : decode cL_law_ 649 = .ok (.iconst 0, 1) := by decide +kernel
theorem dL_law__650 : decode cL_law_ 650 = .ok (.laload, 1) := by decide +kernel
theorem dL_law__651 : decode cL_law_ 651 = .ok (.iload 6, 2) := by decide +kernel
theorem dL_law__653 : decode cL_law_ 653 = .ok (.i2l, 1) := by decide +kernel
theorem dL_law__654 : decode cL_law_ 654 = .ok (.lcmp, 1) := by decide +kernel
theorem dL_law__655 : decode cL_law_ 655 = .ok (.ifCond .eq 5, 3) := by decide +kernel
theorem dL_law__658 : decode cL_law_ 658 = .ok (.iconst 0, 1) := by decide +kernel
theorem dL_law__659 : decode cL_law_ 659 = .ok (.ireturn, 1) := by decide +kernel
theorem dL_law__660 : decode cL_law_ 660 = .ok (.goto 2025, 3) := by decide +kernel
theorem dL_law__663 : decode cL_law_ 663 = .ok (.aload_n 1, 1) := by decide +kernel
theorem dL_law__664 : decode cL_law_ 664 = .ok (.aload_n 3, 1) := by decide +kernel
theorem dL_law__665 : decode cL_law_ 665 = .ok (.invokestatic 168, 3) := by decide +kernel
theorem dL_law__668 : decode cL_law_ 668 = .ok (.istore 5, 2) := by decide +kernel
theorem dL_law__670 : decode cL_law_ 670 = .ok (.aload_n 2, 1) := by decide +kernel
theorem dL_law__671 : decode cL_law_ 671 = .ok (.invokevirtual 170, 3) := by decide +kernel
theorem dL_law__674 : decode cL_law_ 674 = .ok (.istore 6, 2) := by decide +kernel
theorem dL_law__676 : decode cL_law_ 676 = .ok (.aload_n 2, 1) := by decide +kernel
theorem dL_law__677 : decode cL_law_ 677 = .ok (.invokevirtual 147, 3) := by decide +kernel
theorem dL_law__680 : decode cL_law_ 680 = .ok (.iload 5, 2) := by decide +kernel
theorem dL_law__682 : decode cL_law_ 682 = .ok (.if_icmp .eq 5, 3) := by decide +kernel
theorem dL_law__685 : decode cL_law_ 685 = .ok (.iconst 0, 1) := by decide +kernel
theorem dL_law__686 : decode cL_law_ 686 = .ok (.ireturn, 1) := by decide +kernel
theorem dL_law__687 : decode cL_law_ 687 = .ok (.iload 5, 2) := by decide +kernel
theorem dL_law__689 : decode cL_law_ 689 = .ok (.ifCond .ne 15, 3) := by decide +kernel
theorem dL_law__692 : decode cL_law_ 692 = .ok (.aload_n 3, 1) := by decide +kernel
theorem dL_law__693 : decode cL_law_ 693 = .ok (.iconst 0, 1) := by decide +kernel
theorem dL_law__694 : decode cL_law_ 694 = .ok (.laload, 1) := by decide +kernel
theorem dL_law__695 : decode cL_law_ 695 = .ok (.iload 6, 2) := by decide +kernel
theorem dL_law__697 : decode cL_law_ 697 = .ok (.i2l, 1) := by decide +kernel
theorem dL_law__698 : decode cL_law_ 698 = .ok (.lcmp, 1) := by decide +kernel
theorem dL_law__699 : decode cL_law_ 699 = .ok (.ifCond .eq 5, 3) := by decide +kernel
theorem dL_law__702 : decode cL_law_ 702 = .ok (.iconst 0, 1) := by decide +kernel
theorem dL_law__703 : decode cL_law_ 703 = .ok (.ireturn, 1) := by decide +kernel
theorem dL_law__704 : decode cL_law_ 704 = .ok (.goto 1981, 3) := by decide +kernel
theorem dL_law__707 : decode cL_law_ 707 = .ok (.aload_n 1, 1) := by decide +kernel
theorem dL_law__708 : decode cL_law_ 708 = .ok (.aload_n 0, 1) := by decide +kernel
theorem dL_law__709 : decode cL_law_ 709 = .ok (.iload 4, 2) := by decide +kernel
theorem dL_law__711 : decode cL_law_ 711 = .ok (.iconst 1, 1) := by decide +kernel
theorem dL_law__712 : decode cL_law_ 712 = .ok (.iadd, 1) := by decide +kernel
theorem dL_law__713 : decode cL_law_ 713 = .ok (.iaload, 1) := by decide +kernel
theorem dL_law__714 : decode cL_law_ 714 = .ok (.aload_n 0, 1) := by decide +kernel
theorem dL_law__715 : decode cL_law_ 715 = .ok (.iload 4, 2) := by decide +kernel
theorem dL_law__717 : decode cL_law_ 717 = .ok (.iconst 2, 1) := by decide +kernel
theorem dL_law__718 : decode cL_law_ 718 = .ok (.iadd, 1) := by decide +kernel
theorem dL_law__719 : decode cL_law_ 719 = .ok (.iaload, 1) := by decide +kernel
theorem dL_law__720 : decode cL_law_ 720 = .ok (.aload_n 3, 1) := by decide +kernel
theorem dL_law__721 : decode cL_law_ 721 = .ok (.invokestatic 171, 3) := by decide +kernel
theorem dL_law__724 : decode cL_law_ 724 = .ok (.istore 5, 2) := by decide +kernel
theorem dL_law__726 : decode cL_law_ 726 = .ok (.aload_n 2, 1) := by decide +kernel
theorem dL_law__727 : decode cL_law_ 727 = .ok (.aload_n 0, 1) := by decide +kernel
theorem dL_law__728 : decode cL_law_ 728 = .ok (.iload 4, 2) := by decide +kernel
theorem dL_law__730 : decode cL_law_ 730 = .ok (.iconst 1, 1) := by decide +kernel
theorem dL_law__731 : decode cL_law_ 731 = .ok (.iadd, 1) := by decide +kernel
theorem dL_law__732 : decode cL_law_ 732 = .ok (.iaload, 1) := by decide +kernel
theorem dL_law__733 : decode cL_law_ 733 = .ok (.aload_n 0, 1) := by decide +kernel
theorem dL_law__734 : decode cL_law_ 734 = .ok (.iload 4, 2) := by decide +kernel
theorem dL_law__736 : decode cL_law_ 736 = .ok (.iconst 2, 1) := by decide +kernel
theorem dL_law__737 : decode cL_law_ 737 = .ok (.iadd, 1) := by decide +kernel
theorem dL_law__738 : decode cL_law_ 738 = .ok (.iaload, 1) := by decide +kernel
theorem dL_law__739 : decode cL_law_ 739 = .ok (.invokevirtual 173, 3) := by decide +kernel
theorem dL_law__742 : decode cL_law_ 742 = .ok (.istore 6, 2) := by decide +kernel
theorem dL_law__744 : decode cL_law_ 744 = .ok (.aload_n 2, 1) := by decide +kernel
theorem dL_law__745 : decode cL_law_ 745 = .ok (.invokevirtual 147, 3) := by decide +kernel
theorem dL_law__748 : decode cL_law_ 748 = .ok (.iload 5, 2) := by decide +kernel
theorem dL_law__750 : decode cL_law_ 750 = .ok (.if_icmp .eq 5, 3) := by decide +kernel
theorem dL_law__753 : decode cL_law_ 753 = .ok (.iconst 0, 1) := by decide +kernel
theorem dL_law__754 : decode cL_law_ 754 = .ok (.ireturn, 1) := by decide +kernel
theorem dL_law__755 : decode cL_law_ 755 = .ok (.iload 5, 2) := by decide +kernel
theorem dL_law__757 : decode cL_law_ 757 = .ok (.ifCond .ne 15, 3) := by decide +kernel
theorem dL_law__760 : decode cL_law_ 760 = .ok (.aload_n 3, 1) := by decide +kernel
theorem dL_law__761 : decode cL_law_ 761 = .ok (.iconst 0, 1) := by decide +kernel
theorem dL_law__762 : decode cL_law_ 762 = .ok (.laload, 1) := by decide +kernel
theorem dL_law__763 : decode cL_law_ 763 = .ok (.iload 6, 2) := by decide +kernel
theorem dL_law__765 : decode cL_law_ 765 = .ok (.i2l, 1) := by decide +kernel
theorem dL_law__766 : decode cL_law_ 766 = .ok (.lcmp, 1) := by decide +kernel
theorem dL_law__767 : decode cL_law_ 767 = .ok (.ifCond .eq 5, 3) := by decide +kernel
theorem dL_law__770 : decode cL_law_ 770 = .ok (.iconst 0, 1) := by decide +kernel
theorem dL_law__771 : decode cL_law_ 771 = .ok (.ireturn, 1) := by decide +kernel
theorem dL_law__772 : decode cL_law_ 772 = .ok (.goto 1913, 3) := by decide +kernel
theorem dL_law__775 : decode cL_law_ 775 = .ok (.aload_n 1, 1) := by decide +kernel
theorem dL_law__776 : decode cL_law_ 776 = .ok (.aload_n 0, 1) := by decide +kernel
theorem dL_law__777 : decode cL_law_ 777 = .ok (.iload 4, 2) := by decide +kernel
theorem dL_law__779 : decode cL_law_ 779 = .ok (.iconst 1, 1) := by decide +kernel
theorem dL_law__780 : decode cL_law_ 780 = .ok (.iadd, 1) := by decide +kernel
theorem dL_law__781 : decode cL_law_ 781 = .ok (.iaload, 1) := by decide +kernel
theorem dL_law__782 : decode cL_law_ 782 = .ok (.aload_n 3, 1) := by decide +kernel
theorem dL_law__783 : decode cL_law_ 783 = .ok (.invokestatic 174, 3) := by decide +kernel
theorem dL_law__786 : decode cL_law_ 786 = .ok (.istore 5, 2) := by decide +kernel
theorem dL_law__788 : decode cL_law_ 788 = .ok (.aload_n 2, 1) := by decide +kernel
theorem dL_law__789 : decode cL_law_ 789 = .ok (.aload_n 0, 1) := by decide +kernel
theorem dL_law__790 : decode cL_law_ 790 = .ok (.iload 4, 2) := by decide +kernel
theorem dL_law__792 : decode cL_law_ 792 = .ok (.iconst 1, 1) := by decide +kernel
theorem dL_law__793 : decode cL_law_ 793 = .ok (.iadd, 1) := by decide +kernel
theorem dL_law__794 : decode cL_law_ 794 = .ok (.iaload, 1) := by decide +kernel
theorem dL_law__795 : decode cL_law_ 795 = .ok (.invokevirtual 176, 3) := by decide +kernel
theorem dL_law__798 : decode cL_law_ 798 = .ok (.istore 6, 2) := by decide +kernel
theorem dL_law__800 : decode cL_law_ 800 = .ok (.aload_n 2, 1) := by decide +kernel
theorem dL_law__801 : decode cL_law_ 801 = .ok (.invokevirtual 147, 3) := by decide +kernel
theorem dL_law__804 : decode cL_law_ 804 = .ok (.iload 5, 2) := by decide +kernel
theorem dL_law__806 : decode cL_law_ 806 = .ok (.if_icmp .eq 5, 3) := by decide +kernel
theorem dL_law__809 : decode cL_law_ 809 = .ok (.iconst 0, 1) := by decide +kernel
theorem dL_law__810 : decode cL_law_ 810 = .ok (.ireturn, 1) := by decide +kernel
theorem dL_law__811 : decode cL_law_ 811 = .ok (.iload 5, 2) := by decide +kernel
theorem dL_law__813 : decode cL_law_ 813 = .ok (.ifCond .ne 15, 3) := by decide +kernel
theorem dL_law__816 : decode cL_law_ 816 = .ok (.aload_n 3, 1) := by decide +kernel
theorem dL_law__817 : decode cL_law_ 817 = .ok (.iconst 0, 1) := by decide +kernel
theorem dL_law__818 : decode cL_law_ 818 = .ok (.laload, 1) := by decide +kernel
theorem dL_law__819 : decode cL_law_ 819 = .ok (.iload 6, 2) := by decide +kernel
theorem dL_law__821 : decode cL_law_ 821 = .ok (.i2l, 1) := by decide +kernel
theorem dL_law__822 : decode cL_law_ 822 = .ok (.lcmp, 1) := by decide +kernel
theorem dL_law__823 : decode cL_law_ 823 = .ok (.ifCond .eq 5, 3) := by decide +kernel
theorem dL_law__826 : decode cL_law_ 826 = .ok (.iconst 0, 1) := by decide +kernel
theorem dL_law__827 : decode cL_law_ 827 = .ok (.ireturn, 1) := by decide +kernel
theorem dL_law__828 : decode cL_law_ 828 = .ok (.goto 1857, 3) := by decide +kernel
theorem dL_law__831 : decode cL_law_ 831 = .ok (.aload_n 1, 1) := by decide +kernel
theorem dL_law__832 : decode cL_law_ 832 = .ok (.aload_n 0, 1) := by decide +kernel
theorem dL_law__833 : decode cL_law_ 833 = .ok (.iload 4, 2) := by decide +kernel
theorem dL_law__835 : decode cL_law_ 835 = .ok (.iconst 1, 1) := by decide +kernel
theorem dL_law__836 : decode cL_law_ 836 = .ok (.iadd, 1) := by decide +kernel
theorem dL_law__837 : decode cL_law_ 837 = .ok (.iaload, 1) := by decide +kernel
theorem dL_law__838 : decode cL_law_ 838 = .ok (.aload_n 0, 1) := by decide +kernel
theorem dL_law__839 : decode cL_law_ 839 = .ok (.iload 4, 2) := by decide +kernel
theorem dL_law__841 : decode cL_law_ 841 = .ok (.iconst 2, 1) := by decide +kernel
theorem dL_law__842 : decode cL_law_ 842 = .ok (.iadd, 1) := by decide +kernel
theorem dL_law__843 : decode cL_law_ 843 = .ok (.iaload, 1) := by decide +kernel
theorem dL_law__844 : decode cL_law_ 844 = .ok (.aload_n 3, 1) := by decide +kernel
theorem dL_law__845 : decode cL_law_ 845 = .ok (.invokestatic 177, 3) := by decide +kernel
theorem dL_law__848 : decode cL_law_ 848 = .ok (.istore 5, 2) := by decide +kernel
theorem dL_law__850 : decode cL_law_ 850 = .ok (.aload_n 2, 1) := by decide +kernel
theorem dL_law__851 : decode cL_law_ 851 = .ok (.aload_n 0, 1) := by decide +kernel
theorem dL_law__852 : decode cL_law_ 852 = .ok (.iload 4, 2) := by decide +kernel
theorem dL_law__854 : decode cL_law_ 854 = .ok (.iconst 1, 1) := by decide +kernel
theorem dL_law__855 : decode cL_law_ 855 = .ok (.iadd, 1) := by decide +kernel
theorem dL_law__856 : decode cL_law_ 856 = .ok (.iaload, 1) := by decide +kernel
theorem dL_law__857 : decode cL_law_ 857 = .ok (.aload_n 0, 1) := by decide +kernel
theorem dL_law__858 : decode cL_law_ 858 = .ok (.iload 4, 2) := by decide +kernel
theorem dL_law__860 : decode cL_law_ 860 = .ok (.iconst 2, 1) := by decide +kernel
theorem dL_law__861 : decode cL_law_ 861 = .ok (.iadd, 1) := by decide +kernel
theorem dL_law__862 : decode cL_law_ 862 = .ok (.iaload, 1) := by decide +kernel
theorem dL_law__863 : decode cL_law_ 863 = .ok (.invokevirtual 179, 3) := by decide +kernel
theorem dL_law__866 : decode cL_law_ 866 = .ok (.istore 6, 2) := by decide +kernel
theorem dL_law__868 : decode cL_law_ 868 = .ok (.aload_n 2, 1) := by decide +kernel
theorem dL_law__869 : decode cL_law_ 869 = .ok (.invokevirtual 147, 3) := by decide +kernel
theorem dL_law__872 : decode cL_law_ 872 = .ok (.iload 5, 2) := by decide +kernel
theorem dL_law__874 : decode cL_law_ 874 = .ok (.if_icmp .eq 5, 3) := by decide +kernel
theorem dL_law__877 : decode cL_law_ 877 = .ok (.iconst 0, 1) := by decide +kernel
theorem dL_law__878 : decode cL_law_ 878 = .ok (.ireturn, 1) := by decide +kernel
theorem dL_law__879 : decode cL_law_ 879 = .ok (.iload 5, 2) := by decide +kernel
theorem dL_law__881 : decode cL_law_ 881 = .ok (.ifCond .ne 15, 3) := by decide +kernel
theorem dL_law__884 : decode cL_law_ 884 = .ok (.aload_n 3, 1) := by decide +kernel
theorem dL_law__885 : decode cL_law_ 885 = .ok (.iconst 0, 1) := by decide +kernel
theorem dL_law__886 : decode cL_law_ 886 = .ok (.laload, 1) := by decide +kernel
theorem dL_law__887 : decode cL_law_ 887 = .ok (.iload 6, 2) := by decide +kernel
theorem dL_law__889 : decode cL_law_ 889 = .ok (.i2l, 1) := by decide +kernel
theorem dL_law__890 : decode cL_law_ 890 = .ok (.lcmp, 1) := by decide +kernel
theorem dL_law__891 : decode cL_law_ 891 = .ok (.ifCond .eq 5, 3) := by decide +kernel
theorem dL_law__894 : decode cL_law_ 894 = .ok (.iconst 0, 1) := by decide +kernel
theorem dL_law__895 : decode cL_law_ 895 = .ok (.ireturn, 1) := by decide +kernel
theorem dL_law__896 : decode cL_law_ 896 = .ok (.goto 1789, 3) := by decide +kernel
theorem dL_law__899 : decode cL_law_ 899 = .ok (.aload_n 1, 1) := by decide +kernel
theorem dL_law__900 : decode cL_law_ 900 = .ok (.aload_n 0, 1) := by decide +kernel
theorem dL_law__901 : decode cL_law_ 901 = .ok (.iload 4, 2) := by decide +kernel
theorem dL_law__903 : decode cL_law_ 903 = .ok (.iconst 1, 1) := by decide +kernel
theorem dL_law__904 : decode cL_law_ 904 = .ok (.iadd, 1) := by decide +kernel
theorem dL_law__905 : decode cL_law_ 905 = .ok (.iaload, 1) := by decide +kernel
theorem dL_law__906 : decode cL_law_ 906 = .ok (.aload_n 0, 1) := by decide +kernel
theorem dL_law__907 : decode cL_law_ 907 = .ok (.iload 4, 2) := by decide +kernel
theorem dL_law__909 : decode cL_law_ 909 = .ok (.iconst 2, 1) := by decide +kernel
theorem dL_law__910 : decode cL_law_ 910 = .ok (.iadd, 1) := by decide +kernel
theorem dL_law__911 : decode cL_law_ 911 = .ok (.iaload, 1) := by decide +kernel
theorem dL_law__912 : decode cL_law_ 912 = .ok (.aload_n 3, 1) := by decide +kernel
theorem dL_law__913 : decode cL_law_ 913 = .ok (.invokestatic 180, 3) := by decide +kernel
theorem dL_law__916 : decode cL_law_ 916 = .ok (.istore 5, 2) := by decide +kernel
theorem dL_law__918 : decode cL_law_ 918 = .ok (.aload_n 2, 1) := by decide +kernel
theorem dL_law__919 : decode cL_law_ 919 = .ok (.aload_n 0, 1) := by decide +kernel
theorem dL_law__920 : decode cL_law_ 920 = .ok (.iload 4, 2) := by decide +kernel
theorem dL_law__922 : decode cL_law_ 922 = .ok (.iconst 1, 1) := by decide +kernel
theorem dL_law__923 : decode cL_law_ 923 = .ok (.iadd, 1) := by decide +kernel
theorem dL_law__924 : decode cL_law_ 924 = .ok (.iaload, 1) := by decide +kernel
theorem dL_law__925 : decode cL_law_ 925 = .ok (.aload_n 0, 1) := by decide +kernel
theorem dL_law__926 : decode cL_law_ 926 = .ok (.iload 4, 2) := by decide +kernel
theorem dL_law__928 : decode cL_law_ 928 = .ok (.iconst 2, 1) := by decide +kernel
theorem dL_law__929 : decode cL_law_ 929 = .ok (.iadd, 1) := by decide +kernel
theorem dL_law__930 : decode cL_law_ 930 = .ok (.iaload, 1) := by decide +kernel
theorem dL_law__931 : decode cL_law_ 931 = .ok (.invokevirtual 182, 3) := by decide +kernel
theorem dL_law__934 : decode cL_law_ 934 = .ok (.istore 6, 2) := by decide +kernel
theorem dL_law__936 : decode cL_law_ 936 = .ok (.aload_n 2, 1) := by decide +kernel
theorem dL_law__937 : decode cL_law_ 937 = .ok (.invokevirtual 147, 3) := by decide +kernel
theorem dL_law__940 : decode cL_law_ 940 = .ok (.iload 5, 2) := by decide +kernel
theorem dL_law__942 : decode cL_law_ 942 = .ok (.if_icmp .eq 5, 3) := by decide +kernel
theorem dL_law__945 : decode cL_law_ 945 = .ok (.iconst 0, 1) := by decide +kernel
theorem dL_law__946 : decode cL_law_ 946 = .ok (.ireturn, 1) := by decide +kernel
theorem dL_law__947 : decode cL_law_ 947 = .ok (.iload 5, 2) := by decide +kernel
theorem dL_law__949 : decode cL_law_ 949 = .ok (.ifCond .ne 15, 3) := by decide +kernel
theorem dL_law__952 : decode cL_law_ 952 = .ok (.aload_n 3, 1) := by decide +kernel
theorem dL_law__953 : decode cL_law_ 953 = .ok (.iconst 0, 1) := by decide +kernel
theorem dL_law__954 : decode cL_law_ 954 = .ok (.laload, 1) := by decide +kernel
theorem dL_law__955 : decode cL_law_ 955 = .ok (.iload 6, 2) := by decide +kernel
theorem dL_law__957 : decode cL_law_ 957 = .ok (.i2l, 1) := by decide +kernel
theorem dL_law__958 : decode cL_law_ 958 = .ok (.lcmp, 1) := by decide +kernel
theorem dL_law__959 : decode cL_law_ 959 = .ok (.ifCond .eq 5, 3) := by decide +kernel
theorem dL_law__962 : decode cL_law_ 962 = .ok (.iconst 0, 1) := by decide +kernel
theorem dL_law__963 : decode cL_law_ 963 = .ok (.ireturn, 1) := by decide +kernel
theorem dL_law__964 : decode cL_law_ 964 = .ok (.goto 1721, 3) := by decide +kernel
theorem dL_law__967 : decode cL_law_ 967 = .ok (.aload_n 1, 1) := by decide +kernel
theorem dL_law__968 : decode cL_law_ 968 = .ok (.aload_n 0, 1) := by decide +kernel
theorem dL_law__969 : decode cL_law_ 969 = .ok (.iload 4, 2) := by decide +kernel
theorem dL_law__971 : decode cL_law_ 971 = .ok (.iconst 1, 1) := by decide +kernel
theorem dL_law__972 : decode cL_law_ 972 = .ok (.iadd, 1) := by decide +kernel
theorem dL_law__973 : decode cL_law_ 973 = .ok (.iaload, 1) := by decide +kernel
theorem dL_law__974 : decode cL_law_ 974 = .ok (.aload_n 0, 1) := by decide +kernel
theorem dL_law__975 : decode cL_law_ 975 = .ok (.iload 4, 2) := by decide +kernel
theorem dL_law__977 : decode cL_law_ 977 = .ok (.iconst 2, 1) := by decide +kernel
theorem dL_law__978 : decode cL_law_ 978 = .ok (.iadd, 1) := by decide +kernel
theorem dL_law__979 : decode cL_law_ 979 = .ok (.iaload, 1) := by decide +kernel
theorem dL_law__980 : decode cL_law_ 980 = .ok (.aload_n 3, 1) := by decide +kernel
theorem dL_law__981 : decode cL_law_ 981 = .ok (.invokestatic 183, 3) := by decide +kernel
theorem dL_law__984 : decode cL_law_ 984 = .ok (.istore 5, 2) := by decide +kernel
theorem dL_law__986 : decode cL_law_ 986 = .ok (.aload_n 2, 1) := by decide +kernel
theorem dL_law__987 : decode cL_law_ 987 = .ok (.aload_n 0, 1) := by decide +kernel
theorem dL_law__988 : decode cL_law_ 988 = .ok (.iload 4, 2) := by decide +kernel
theorem dL_law__990 : decode cL_law_ 990 = .ok (.iconst 1, 1) := by decide +kernel
theorem dL_law__991 : decode cL_law_ 991 = .ok (.iadd, 1) := by decide +kernel
theorem dL_law__992 : decode cL_law_ 992 = .ok (.iaload, 1) := by decide +kernel
theorem dL_law__993 : decode cL_law_ 993 = .ok (.aload_n 0, 1) := by decide +kernel
theorem dL_law__994 : decode cL_law_ 994 = .ok (.iload 4, 2) := by decide +kernel
theorem dL_law__996 : decode cL_law_ 996 = .ok (.iconst 2, 1) := by decide +kernel
theorem dL_law__997 : decode cL_law_ 997 = .ok (.iadd, 1) := by decide +kernel
theorem dL_law__998 : decode cL_law_ 998 = .ok (.iaload, 1) := by decide +kernel
theorem dL_law__999 : decode cL_law_ 999 = .ok (.invokevirtual 185, 3) := by decide +kernel
theorem dL_law__1002 : decode cL_law_ 1002 = .ok (.istore 6, 2) := by decide +kernel
theorem dL_law__1004 : decode cL_law_ 1004 = .ok (.aload_n 2, 1) := by decide +kernel
theorem dL_law__1005 : decode cL_law_ 1005 = .ok (.invokevirtual 147, 3) := by decide +kernel
theorem dL_law__1008 : decode cL_law_ 1008 = .ok (.iload 5, 2) := by decide +kernel
theorem dL_law__1010 : decode cL_law_ 1010 = .ok (.if_icmp .eq 5, 3) := by decide +kernel
theorem dL_law__1013 : decode cL_law_ 1013 = .ok (.iconst 0, 1) := by decide +kernel
theorem dL_law__1014 : decode cL_law_ 1014 = .ok (.ireturn, 1) := by decide +kernel
theorem dL_law__1015 : decode cL_law_ 1015 = .ok (.iload 5, 2) := by decide +kernel
theorem dL_law__1017 : decode cL_law_ 1017 = .ok (.ifCond .ne 15, 3) := by decide +kernel
theorem dL_law__1020 : decode cL_law_ 1020 = .ok (.aload_n 3, 1) := by decide +kernel
theorem dL_law__1021 : decode cL_law_ 1021 = .ok (.iconst 0, 1) := by decide +kernel
theorem dL_law__1022 : decode cL_law_ 1022 = .ok (.laload, 1) := by decide +kernel
theorem dL_law__1023 : decode cL_law_ 1023 = .ok (.iload 6, 2) := by decide +kernel
theorem dL_law__1025 : decode cL_law_ 1025 = .ok (.i2l, 1) := by decide +kernel
theorem dL_law__1026 : decode cL_law_ 1026 = .ok (.lcmp, 1) := by decide +kernel
theorem dL_law__1027 : decode cL_law_ 1027 = .ok (.ifCond .eq 5, 3) := by decide +kernel
theorem dL_law__1030 : decode cL_law_ 1030 = .ok (.iconst 0, 1) := by decide +kernel
theorem dL_law__1031 : decode cL_law_ 1031 = .ok (.ireturn, 1) := by decide +kernel
theorem dL_law__1032 : decode cL_law_ 1032 = .ok (.goto 1653, 3) := by decide +kernel
theorem dL_law__1035 : decode cL_law_ 1035 = .ok (.aload_n 1, 1) := by decide +kernel
theorem dL_law__1036 : decode cL_law_ 1036 = .ok (.aload_n 0, 1) := by decide +kernel
theorem dL_law__1037 : decode cL_law_ 1037 = .ok (.iload 4, 2) := by decide +kernel
theorem dL_law__1039 : decode cL_law_ 1039 = .ok (.iconst 1, 1) := by decide +kernel
theorem dL_law__1040 : decode cL_law_ 1040 = .ok (.iadd, 1) := by decide +kernel
theorem dL_law__1041 : decode cL_law_ 1041 = .ok (.iaload, 1) := by decide +kernel
theorem dL_law__1042 : decode cL_law_ 1042 = .ok (.aload_n 3, 1) := by decide +kernel
theorem dL_law__1043 : decode cL_law_ 1043 = .ok (.invokestatic 186, 3) := by decide +kernel
theorem dL_law__1046 : decode cL_law_ 1046 = .ok (.istore 5, 2) := by decide +kernel
theorem dL_law__1048 : decode cL_law_ 1048 = .ok (.aload_n 2, 1) := by decide +kernel
theorem dL_law__1049 : decode cL_law_ 1049 = .ok (.aload_n 0, 1) := by decide +kernel
theorem dL_law__1050 : decode cL_law_ 1050 = .ok (.iload 4, 2) := by decide +kernel
theorem dL_law__1052 : decode cL_law_ 1052 = .ok (.iconst 1, 1) := by decide +kernel
theorem dL_law__1053 : decode cL_law_ 1053 = .ok (.iadd, 1) := by decide +kernel
theorem dL_law__1054 : decode cL_law_ 1054 = .ok (.iaload, 1) := by decide +kernel
theorem dL_law__1055 : decode cL_law_ 1055 = .ok (.invokevirtual 188, 3) := by decide +kernel
theorem dL_law__1058 : decode cL_law_ 1058 = .ok (.istore 6, 2) := by decide +kernel
theorem dL_law__1060 : decode cL_law_ 1060 = .ok (.aload_n 2, 1) := by decide +kernel
theorem dL_law__1061 : decode cL_law_ 1061 = .ok (.invokevirtual 147, 3) := by decide +kernel
theorem dL_law__1064 : decode cL_law_ 1064 = .ok (.iload 5, 2) := by decide +kernel
theorem dL_law__1066 : decode cL_law_ 1066 = .ok (.if_icmp .eq 5, 3) := by decide +kernel
theorem dL_law__1069 : decode cL_law_ 1069 = .ok (.iconst 0, 1) := by decide +kernel
theorem dL_law__1070 : decode cL_law_ 1070 = .ok (.ireturn, 1) := by decide +kernel
theorem dL_law__1071 : decode cL_law_ 1071 = .ok (.iload 5, 2) := by decide +kernel
theorem dL_law__1073 : decode cL_law_ 1073 = .ok (.ifCond .ne 15, 3) := by decide +kernel
theorem dL_law__1076 : decode cL_law_ 1076 = .ok (.aload_n 3, 1) := by decide +kernel
theorem dL_law__1077 : decode cL_law_ 1077 = .ok (.iconst 0, 1) := by decide +kernel
theorem dL_law__1078 : decode cL_law_ 1078 = .ok (.laload, 1) := by decide +kernel
theorem dL_law__1079 : decode cL_law_ 1079 = .ok (.iload 6, 2) := by decide +kernel
theorem dL_law__1081 : decode cL_law_ 1081 = .ok (.i2l, 1) := by decide +kernel
theorem dL_law__1082 : decode cL_law_ 1082 = .ok (.lcmp, 1) := by decide +kernel
theorem dL_law__1083 : decode cL_law_ 1083 = .ok (.ifCond .eq 5, 3) := by decide +kernel
theorem dL_law__1086 : decode cL_law_ 1086 = .ok (.iconst 0, 1) := by decide +kernel
theorem dL_law__1087 : decode cL_law_ 1087 = .ok (.ireturn, 1) := by decide +kernel
theorem dL_law__1088 : decode cL_law_ 1088 = .ok (.goto 1597, 3) := by decide +kernel
theorem dL_law__1091 : decode cL_law_ 1091 = .ok (.aload_n 1, 1) := by decide +kernel
theorem dL_law__1092 : decode cL_law_ 1092 = .ok (.aload_n 0, 1) := by decide +kernel
theorem dL_law__1093 : decode cL_law_ 1093 = .ok (.iload 4, 2) := by decide +kernel
theorem dL_law__1095 : decode cL_law_ 1095 = .ok (.iconst 1, 1) := by decide +kernel
theorem dL_law__1096 : decode cL_law_ 1096 = .ok (.iadd, 1) := by decide +kernel
theorem dL_law__1097 : decode cL_law_ 1097 = .ok (.iaload, 1) := by decide +kernel
theorem dL_law__1098 : decode cL_law_ 1098 = .ok (.aload_n 3, 1) := by decide +kernel
theorem dL_law__1099 : decode cL_law_ 1099 = .ok (.invokestatic 189, 3) := by decide +kernel
theorem dL_law__1102 : decode cL_law_ 1102 = .ok (.istore 5, 2) := by decide +kernel
theorem dL_law__1104 : decode cL_law_ 1104 = .ok (.aload_n 2, 1) := by decide +kernel
theorem dL_law__1105 : decode cL_law_ 1105 = .ok (.aload_n 0, 1) := by decide +kernel
theorem dL_law__1106 : decode cL_law_ 1106 = .ok (.iload 4, 2) := by decide +kernel
theorem dL_law__1108 : decode cL_law_ 1108 = .ok (.iconst 1, 1) := by decide +kernel
theorem dL_law__1109 : decode cL_law_ 1109 = .ok (.iadd, 1) := by decide +kernel
theorem dL_law__1110 : decode cL_law_ 1110 = .ok (.iaload, 1) := by decide +kernel
theorem dL_law__1111 : decode cL_law_ 1111 = .ok (.invokevirtual 191, 3) := by decide +kernel
theorem dL_law__1114 : decode cL_law_ 1114 = .ok (.istore 6, 2) := by decide +kernel
theorem dL_law__1116 : decode cL_law_ 1116 = .ok (.aload_n 2, 1) := by decide +kernel
theorem dL_law__1117 : decode cL_law_ 1117 = .ok (.invokevirtual 147, 3) := by decide +kernel
theorem dL_law__1120 : decode cL_law_ 1120 = .ok (.iload 5, 2) := by decide +kernel
theorem dL_law__1122 : decode cL_law_ 1122 = .ok (.if_icmp .eq 5, 3) := by decide +kernel
theorem dL_law__1125 : decode cL_law_ 1125 = .ok (.iconst 0, 1) := by decide +kernel
theorem dL_law__1126 : decode cL_law_ 1126 = .ok (.ireturn, 1) := by decide +kernel
theorem dL_law__1127 : decode cL_law_ 1127 = .ok (.iload 5, 2) := by decide +kernel
theorem dL_law__1129 : decode cL_law_ 1129 = .ok (.ifCond .ne 15, 3) := by decide +kernel
theorem dL_law__1132 : decode cL_law_ 1132 = .ok (.aload_n 3, 1) := by decide +kernel
theorem dL_law__1133 : decode cL_law_ 1133 = .ok (.iconst 0, 1) := by decide +kernel
theorem dL_law__1134 : decode cL_law_ 1134 = .ok (.laload, 1) := by decide +kernel
theorem dL_law__1135 : decode cL_law_ 1135 = .ok (.iload 6, 2) := by decide +kernel
theorem dL_law__1137 : decode cL_law_ 1137 = .ok (.i2l, 1) := by decide +kernel
theorem dL_law__1138 : decode cL_law_ 1138 = .ok (.lcmp, 1) := by decide +kernel
theorem dL_law__1139 : decode cL_law_ 1139 = .ok (.ifCond .eq 5, 3) := by decide +kernel
theorem dL_law__1142 : decode cL_law_ 1142 = .ok (.iconst 0, 1) := by decide +kernel
theorem dL_law__1143 : decode cL_law_ 1143 = .ok (.ireturn, 1) := by decide +kernel
theorem dL_law__1144 : decode cL_law_ 1144 = .ok (.goto 1541, 3) := by decide +kernel
theorem dL_law__1147 : decode cL_law_ 1147 = .ok (.aload_n 1, 1) := by decide +kernel
theorem dL_law__1148 : decode cL_law_ 1148 = .ok (.aload_n 0, 1) := by decide +kernel
theorem dL_law__1149 : decode cL_law_ 1149 = .ok (.iload 4, 2) := by decide +kernel
theorem dL_law__1151 : decode cL_law_ 1151 = .ok (.iconst 1, 1) := by decide +kernel
theorem dL_law__1152 : decode cL_law_ 1152 = .ok (.iadd, 1) := by decide +kernel
theorem dL_law__1153 : decode cL_law_ 1153 = .ok (.iaload, 1) := by decide +kernel
theorem dL_law__1154 : decode cL_law_ 1154 = .ok (.aload_n 3, 1) := by decide +kernel
theorem dL_law__1155 : decode cL_law_ 1155 = .ok (.invokestatic 192, 3) := by decide +kernel
theorem dL_law__1158 : decode cL_law_ 1158 = .ok (.istore 5, 2) := by decide +kernel
theorem dL_law__1160 : decode cL_law_ 1160 = .ok (.aload_n 2, 1) := by decide +kernel
theorem dL_law__1161 : decode cL_law_ 1161 = .ok (.aload_n 0, 1) := by decide +kernel
theorem dL_law__1162 : decode cL_law_ 1162 = .ok (.iload 4, 2) := by decide +kernel
theorem dL_law__1164 : decode cL_law_ 1164 = .ok (.iconst 1, 1) := by decide +kernel
theorem dL_law__1165 : decode cL_law_ 1165 = .ok (.iadd, 1) := by decide +kernel
theorem dL_law__1166 : decode cL_law_ 1166 = .ok (.iaload, 1) := by decide +kernel
theorem dL_law__1167 : decode cL_law_ 1167 = .ok (.invokevirtual 194, 3) := by decide +kernel
theorem dL_law__1170 : decode cL_law_ 1170 = .ok (.istore 6, 2) := by decide +kernel
theorem dL_law__1172 : decode cL_law_ 1172 = .ok (.aload_n 2, 1) := by decide +kernel
theorem dL_law__1173 : decode cL_law_ 1173 = .ok (.invokevirtual 147, 3) := by decide +kernel
theorem dL_law__1176 : decode cL_law_ 1176 = .ok (.iload 5, 2) := by decide +kernel
theorem dL_law__1178 : decode cL_law_ 1178 = .ok (.if_icmp .eq 5, 3) := by decide +kernel
theorem dL_law__1181 : decode cL_law_ 1181 = .ok (.iconst 0, 1) := by decide +kernel
theorem dL_law__1182 : decode cL_law_ 1182 = .ok (.ireturn, 1) := by decide +kernel
theorem dL_law__1183 : decode cL_law_ 1183 = .ok (.iload 5, 2) := by decide +kernel
theorem dL_law__1185 : decode cL_law_ 1185 = .ok (.ifCond .ne 15, 3) := by decide +kernel
theorem dL_law__1188 : decode cL_law_ 1188 = .ok (.aload_n 3, 1) := by decide +kernel
theorem dL_law__1189 : decode cL_law_ 1189 = .ok (.iconst 0, 1) := by decide +kernel
theorem dL_law__1190 : decode cL_law_ 1190 = .ok (.laload, 1) := by decide +kernel
theorem dL_law__1191 : decode cL_law_ 1191 = .ok (.iload 6, 2) := by decide +kernel
theorem dL_law__1193 : decode cL_law_ 1193 = .ok (.i2l, 1) := by decide +kernel
theorem dL_law__1194 : decode cL_law_ 1194 = .ok (.lcmp, 1) := by decide +kernel
theorem dL_law__1195 : decode cL_law_ 1195 = .ok (.ifCond .eq 5, 3) := by decide +kernel
theorem dL_law__1198 : decode cL_law_ 1198 = .ok (.iconst 0, 1) := by decide +kernel
theorem dL_law__1199 : decode cL_law_ 1199 = .ok (.ireturn, 1) := by decide +kernel
theorem dL_law__1200 : decode cL_law_ 1200 = .ok (.goto 1485, 3) := by decide +kernel
theorem dL_law__1203 : decode cL_law_ 1203 = .ok (.aload_n 1, 1) := by decide +kernel
theorem dL_law__1204 : decode cL_law_ 1204 = .ok (.aload_n 0, 1) := by decide +kernel
theorem dL_law__1205 : decode cL_law_ 1205 = .ok (.iload 4, 2) := by decide +kernel
theorem dL_law__1207 : decode cL_law_ 1207 = .ok (.iconst 1, 1) := by decide +kernel
theorem dL_law__1208 : decode cL_law_ 1208 = .ok (.iadd, 1) := by decide +kernel
theorem dL_law__1209 : decode cL_law_ 1209 = .ok (.iaload, 1) := by decide +kernel
theorem dL_law__1210 : decode cL_law_ 1210 = .ok (.aload_n 3, 1) := by decide +kernel
theorem dL_law__1211 : decode cL_law_ 1211 = .ok (.invokestatic 195, 3) := by decide +kernel
theorem dL_law__1214 : decode cL_law_ 1214 = .ok (.istore 5, 2) := by decide +kernel
theorem dL_law__1216 : decode cL_law_ 1216 = .ok (.aload_n 2, 1) := by decide +kernel
theorem dL_law__1217 : decode cL_law_ 1217 = .ok (.aload_n 0, 1) := by decide +kernel
theorem dL_law__1218 : decode cL_law_ 1218 = .ok (.iload 4, 2) := by decide +kernel
theorem dL_law__1220 : decode cL_law_ 1220 = .ok (.iconst 1, 1) := by decide +kernel
theorem dL_law__1221 : decode cL_law_ 1221 = .ok (.iadd, 1) := by decide +kernel
theorem dL_law__1222 : decode cL_law_ 1222 = .ok (.iaload, 1) := by decide +kernel
theorem dL_law__1223 : decode cL_law_ 1223 = .ok (.invokevirtual 197, 3) := by decide +kernel
theorem dL_law__1226 : decode cL_law_ 1226 = .ok (.istore 6, 2) := by decide +kernel
theorem dL_law__1228 : decode cL_law_ 1228 = .ok (.aload_n 2, 1) := by decide +kernel
theorem dL_law__1229 : decode cL_law_ 1229 = .ok (.invokevirtual 147, 3) := by decide +kernel
theorem dL_law__1232 : decode cL_law_ 1232 = .ok (.iload 5, 2) := by decide +kernel
theorem dL_law__1234 : decode cL_law_ 1234 = .ok (.if_icmp .eq 5, 3) := by decide +kernel
theorem dL_law__1237 : decode cL_law_ 1237 = .ok (.iconst 0, 1) := by decide +kernel
theorem dL_law__1238 : decode cL_law_ 1238 = .ok (.ireturn, 1) := by decide +kernel
theorem dL_law__1239 : decode cL_law_ 1239 = .ok (.iload 5, 2) := by decide +kernel
theorem dL_law__1241 : decode cL_law_ 1241 = .ok (.ifCond .ne 15, 3) := by decide +kernel
theorem dL_law__1244 : decode cL_law_ 1244 = .ok (.aload_n 3, 1) := by decide +kernel
theorem dL_law__1245 : decode cL_law_ 1245 = .ok (.iconst 0, 1) := by decide +kernel
theorem dL_law__1246 : decode cL_law_ 1246 = .ok (.laload, 1) := by decide +kernel
theorem dL_law__1247 : decode cL_law_ 1247 = .ok (.iload 6, 2) := by decide +kernel
theorem dL_law__1249 : decode cL_law_ 1249 = .ok (.i2l, 1) := by decide +kernel
theorem dL_law__1250 : decode cL_law_ 1250 = .ok (.lcmp, 1) := by decide +kernel
theorem dL_law__1251 : decode cL_law_ 1251 = .ok (.ifCond .eq 5, 3) := by decide +kernel
theorem dL_law__1254 : decode cL_law_ 1254 = .ok (.iconst 0, 1) := by decide +kernel
theorem dL_law__1255 : decode cL_law_ 1255 = .ok (.ireturn, 1) := by decide +kernel
theorem dL_law__1256 : decode cL_law_ 1256 = .ok (.goto 1429, 3) := by decide +kernel
theorem dL_law__1259 : decode cL_law_ 1259 = .ok (.aload_n 1, 1) := by decide +kernel
theorem dL_law__1260 : decode cL_law_ 1260 = .ok (.aload_n 0, 1) := by decide +kernel
theorem dL_law__1261 : decode cL_law_ 1261 = .ok (.iload 4, 2) := by decide +kernel
theorem dL_law__1263 : decode cL_law_ 1263 = .ok (.iconst 1, 1) := by decide +kernel
theorem dL_law__1264 : decode cL_law_ 1264 = .ok (.iadd, 1) := by decide +kernel
theorem dL_law__1265 : decode cL_law_ 1265 = .ok (.iaload, 1) := by decide +kernel
theorem dL_law__1266 : decode cL_law_ 1266 = .ok (.aload_n 3, 1) := by decide +kernel
theorem dL_law__1267 : decode cL_law_ 1267 = .ok (.invokestatic 198, 3) := by decide +kernel
theorem dL_law__1270 : decode cL_law_ 1270 = .ok (.istore 5, 2) := by decide +kernel
theorem dL_law__1272 : decode cL_law_ 1272 = .ok (.aload_n 2, 1) := by decide +kernel
theorem dL_law__1273 : decode cL_law_ 1273 = .ok (.aload_n 0, 1) := by decide +kernel
theorem dL_law__1274 : decode cL_law_ 1274 = .ok (.iload 4, 2) := by decide +kernel
theorem dL_law__1276 : decode cL_law_ 1276 = .ok (.iconst 1, 1) := by decide +kernel
theorem dL_law__1277 : decode cL_law_ 1277 = .ok (.iadd, 1) := by decide +kernel
theorem dL_law__1278 : decode cL_law_ 1278 = .ok (.iaload, 1) := by decide +kernel
theorem dL_law__1279 : decode cL_law_ 1279 = .ok (.invokevirtual 200, 3) := by decide +kernel
theorem dL_law__1282 : decode cL_law_ 1282 = .ok (.istore 6, 2) := by decide +kernel
theorem dL_law__1284 : decode cL_law_ 1284 = .ok (.aload_n 2, 1) := by decide +kernel
theorem dL_law__1285 : decode cL_law_ 1285 = .ok (.invokevirtual 147, 3) := by decide +kernel
theorem dL_law__1288 : decode cL_law_ 1288 = .ok (.iload 5, 2) := by decide +kernel
theorem dL_law__1290 : decode cL_law_ 1290 = .ok (.if_icmp .eq 5, 3) := by decide +kernel
theorem dL_law__1293 : decode cL_law_ 1293 = .ok (.iconst 0, 1) := by decide +kernel
theorem dL_law__1294 : decode cL_law_ 1294 = .ok (.ireturn, 1) := by decide +kernel
theorem dL_law__1295 : decode cL_law_ 1295 = .ok (.iload 5, 2) := by decide +kernel
theorem dL_law__1297 : decode cL_law_ 1297 = .ok (.ifCond .ne 15, 3) := by decide +kernel
theorem dL_law__1300 : decode cL_law_ 1300 = .ok (.aload_n 3, 1) := by decide +kernel
theorem dL_law__1301 : decode cL_law_ 1301 = .ok (.iconst 0, 1) := by decide +kernel
theorem dL_law__1302 : decode cL_law_ 1302 = .ok (.laload, 1) := by decide +kernel
theorem dL_law__1303 : decode cL_law_ 1303 = .ok (.iload 6, 2) := by decide +kernel
theorem dL_law__1305 : decode cL_law_ 1305 = .ok (.i2l, 1) := by decide +kernel
theorem dL_law__1306 : decode cL_law_ 1306 = .ok (.lcmp, 1) := by decide +kernel
theorem dL_law__1307 : decode cL_law_ 1307 = .ok (.ifCond .eq 5, 3) := by decide +kernel
theorem dL_law__1310 : decode cL_law_ 1310 = .ok (.iconst 0, 1) := by decide +kernel
theorem dL_law__1311 : decode cL_law_ 1311 = .ok (.ireturn, 1) := by decide +kernel
theorem dL_law__1312 : decode cL_law_ 1312 = .ok (.goto 1373, 3) := by decide +kernel
theorem dL_law__1315 : decode cL_law_ 1315 = .ok (.aload_n 1, 1) := by decide +kernel
theorem dL_law__1316 : decode cL_law_ 1316 = .ok (.aload_n 0, 1) := by decide +kernel
theorem dL_law__1317 : decode cL_law_ 1317 = .ok (.iload 4, 2) := by decide +kernel
theorem dL_law__1319 : decode cL_law_ 1319 = .ok (.iconst 1, 1) := by decide +kernel
theorem dL_law__1320 : decode cL_law_ 1320 = .ok (.iadd, 1) := by decide +kernel
theorem dL_law__1321 : decode cL_law_ 1321 = .ok (.iaload, 1) := by decide +kernel
theorem dL_law__1322 : decode cL_law_ 1322 = .ok (.aload_n 3, 1) := by decide +kernel
theorem dL_law__1323 : decode cL_law_ 1323 = .ok (.invokestatic 201, 3) := by decide +kernel
theorem dL_law__1326 : decode cL_law_ 1326 = .ok (.istore 5, 2) := by decide +kernel
theorem dL_law__1328 : decode cL_law_ 1328 = .ok (.aload_n 2, 1) := by decide +kernel
theorem dL_law__1329 : decode cL_law_ 1329 = .ok (.aload_n 0, 1) := by decide +kernel
theorem dL_law__1330 : decode cL_law_ 1330 = .ok (.iload 4, 2) := by decide +kernel
theorem dL_law__1332 : decode cL_law_ 1332 = .ok (.iconst 1, 1) := by decide +kernel
theorem dL_law__1333 : decode cL_law_ 1333 = .ok (.iadd, 1) := by decide +kernel
theorem dL_law__1334 : decode cL_law_ 1334 = .ok (.iaload, 1) := by decide +kernel
theorem dL_law__1335 : decode cL_law_ 1335 = .ok (.invokevirtual 203, 3) := by decide +kernel
theorem dL_law__1338 : decode cL_law_ 1338 = .ok (.istore 6, 2) := by decide +kernel
theorem dL_law__1340 : decode cL_law_ 1340 = .ok (.aload_n 2, 1) := by decide +kernel
theorem dL_law__1341 : decode cL_law_ 1341 = .ok (.invokevirtual 147, 3) := by decide +kernel
theorem dL_law__1344 : decode cL_law_ 1344 = .ok (.iload 5, 2) := by decide +kernel
theorem dL_law__1346 : decode cL_law_ 1346 = .ok (.if_icmp .eq 5, 3) := by decide +kernel
theorem dL_law__1349 : decode cL_law_ 1349 = .ok (.iconst 0, 1) := by decide +kernel
theorem dL_law__1350 : decode cL_law_ 1350 = .ok (.ireturn, 1) := by decide +kernel
theorem dL_law__1351 : decode cL_law_ 1351 = .ok (.iload 5, 2) := by decide +kernel
theorem dL_law__1353 : decode cL_law_ 1353 = .ok (.ifCond .ne 15, 3) := by decide +kernel
theorem dL_law__1356 : decode cL_law_ 1356 = .ok (.aload_n 3, 1) := by decide +kernel
theorem dL_law__1357 : decode cL_law_ 1357 = .ok (.iconst 0, 1) := by decide +kernel
theorem dL_law__1358 : decode cL_law_ 1358 = .ok (.laload, 1) := by decide +kernel
theorem dL_law__1359 : decode cL_law_ 1359 = .ok (.iload 6, 2) := by decide +kernel
theorem dL_law__1361 : decode cL_law_ 1361 = .ok (.i2l, 1) := by decide +kernel
theorem dL_law__1362 : decode cL_law_ 1362 = .ok (.lcmp, 1) := by decide +kernel
theorem dL_law__1363 : decode cL_law_ 1363 = .ok (.ifCond .eq 5, 3) := by decide +kernel
theorem dL_law__1366 : decode cL_law_ 1366 = .ok (.iconst 0, 1) := by decide +kernel
theorem dL_law__1367 : decode cL_law_ 1367 = .ok (.ireturn, 1) := by decide +kernel
theorem dL_law__1368 : decode cL_law_ 1368 = .ok (.goto 1317, 3) := by decide +kernel
theorem dL_law__1371 : decode cL_law_ 1371 = .ok (.aload_n 1, 1) := by decide +kernel
theorem dL_law__1372 : decode cL_law_ 1372 = .ok (.aload_n 3, 1) := by decide +kernel
theorem dL_law__1373 : decode cL_law_ 1373 = .ok (.invokestatic 204, 3) := by decide +kernel
theorem dL_law__1376 : decode cL_law_ 1376 = .ok (.istore 5, 2) := by decide +kernel
theorem dL_law__1378 : decode cL_law_ 1378 = .ok (.aload_n 2, 1) := by decide +kernel
theorem dL_law__1379 : decode cL_law_ 1379 = .ok (.invokevirtual 206, 3) := by decide +kernel
theorem dL_law__1382 : decode cL_law_ 1382 = .ok (.istore 6, 2) := by decide +kernel
theorem dL_law__1384 : decode cL_law_ 1384 = .ok (.aload_n 2, 1) := by decide +kernel
theorem dL_law__1385 : decode cL_law_ 1385 = .ok (.invokevirtual 147, 3) := by decide +kernel
theorem dL_law__1388 : decode cL_law_ 1388 = .ok (.iload 5, 2) := by decide +kernel
theorem dL_law__1390 : decode cL_law_ 1390 = .ok (.if_icmp .eq 5, 3) := by decide +kernel
theorem dL_law__1393 : decode cL_law_ 1393 = .ok (.iconst 0, 1) := by decide +kernel
theorem dL_law__1394 : decode cL_law_ 1394 = .ok (.ireturn, 1) := by decide +kernel
theorem dL_law__1395 : decode cL_law_ 1395 = .ok (.iload 5, 2) := by decide +kernel
theorem dL_law__1397 : decode cL_law_ 1397 = .ok (.ifCond .ne 15, 3) := by decide +kernel
theorem dL_law__1400 : decode cL_law_ 1400 = .ok (.aload_n 3, 1) := by decide +kernel
theorem dL_law__1401 : decode cL_law_ 1401 = .ok (.iconst 0, 1) := by decide +kernel
theorem dL_law__1402 : decode cL_law_ 1402 = .ok (.laload, 1) := by decide +kernel
theorem dL_law__1403 : decode cL_law_ 1403 = .ok (.iload 6, 2) := by decide +kernel
theorem dL_law__1405 : decode cL_law_ 1405 = .ok (.i2l, 1) := by decide +kernel
theorem dL_law__1406 : decode cL_law_ 1406 = .ok (.lcmp, 1) := by decide +kernel
theorem dL_law__1407 : decode cL_law_ 1407 = .ok (.ifCond .eq 5, 3) := by decide +kernel
theorem dL_law__1410 : decode cL_law_ 1410 = .ok (.iconst 0, 1) := by decide +kernel
theorem dL_law__1411 : decode cL_law_ 1411 = .ok (.ireturn, 1) := by decide +kernel
theorem dL_law__1412 : decode cL_law_ 1412 = .ok (.goto 1273, 3) := by decide +kernel
theorem dL_law__1415 : decode cL_law_ 1415 = .ok (.aload_n 1, 1) := by decide +kernel
theorem dL_law__1416 : decode cL_law_ 1416 = .ok (.aload_n 0, 1) := by decide +kernel
theorem dL_law__1417 : decode cL_law_ 1417 = .ok (.iload 4, 2) := by decide +kernel
theorem dL_law__1419 : decode cL_law_ 1419 = .ok (.iconst 1, 1) := by decide +kernel
theorem dL_law__1420 : decode cL_law_ 1420 = .ok (.iadd, 1) := by decide +kernel
theorem dL_law__1421 : decode cL_law_ 1421 = .ok (.iaload, 1) := by decide +kernel
theorem dL_law__1422 : decode cL_law_ 1422 = .ok (.aload_n 3, 1) := by decide +kernel
theorem dL_law__1423 : decode cL_law_ 1423 = .ok (.invokestatic 207, 3) := by decide +kernel
theorem dL_law__1426 : decode cL_law_ 1426 = .ok (.istore 5, 2) := by decide +kernel
theorem dL_law__1428 : decode cL_law_ 1428 = .ok (.aload_n 2, 1) := by decide +kernel
theorem dL_law__1429 : decode cL_law_ 1429 = .ok (.aload_n 0, 1) := by decide +kernel
theorem dL_law__1430 : decode cL_law_ 1430 = .ok (.iload 4, 2) := by decide +kernel
theorem dL_law__1432 : decode cL_law_ 1432 = .ok (.iconst 1, 1) := by decide +kernel
theorem dL_law__1433 : decode cL_law_ 1433 = .ok (.iadd, 1) := by decide +kernel
theorem dL_law__1434 : decode cL_law_ 1434 = .ok (.iaload, 1) := by decide +kernel
theorem dL_law__1435 : decode cL_law_ 1435 = .ok (.invokevirtual 209, 3) := by decide +kernel
theorem dL_law__1438 : decode cL_law_ 1438 = .ok (.istore 6, 2) := by decide +kernel
theorem dL_law__1440 : decode cL_law_ 1440 = .ok (.aload_n 2, 1) := by decide +kernel
theorem dL_law__1441 : decode cL_law_ 1441 = .ok (.invokevirtual 147, 3) := by decide +kernel
theorem dL_law__1444 : decode cL_law_ 1444 = .ok (.iload 5, 2) := by decide +kernel
theorem dL_law__1446 : decode cL_law_ 1446 = .ok (.if_icmp .eq 5, 3) := by decide +kernel
theorem dL_law__1449 : decode cL_law_ 1449 = .ok (.iconst 0, 1) := by decide +kernel
theorem dL_law__1450 : decode cL_law_ 1450 = .ok (.ireturn, 1) := by decide +kernel
theorem dL_law__1451 : decode cL_law_ 1451 = .ok (.iload 5, 2) := by decide +kernel
theorem dL_law__1453 : decode cL_law_ 1453 = .ok (.ifCond .ne 15, 3) := by decide +kernel
theorem dL_law__1456 : decode cL_law_ 1456 = .ok (.aload_n 3, 1) := by decide +kernel
theorem dL_law__1457 : decode cL_law_ 1457 = .ok (.iconst 0, 1) := by decide +kernel
theorem dL_law__1458 : decode cL_law_ 1458 = .ok (.laload, 1) := by decide +kernel
theorem dL_law__1459 : decode cL_law_ 1459 = .ok (.iload 6, 2) := by decide +kernel
theorem dL_law__1461 : decode cL_law_ 1461 = .ok (.i2l, 1) := by decide +kernel
theorem dL_law__1462 : decode cL_law_ 1462 = .ok (.lcmp, 1) := by decide +kernel
theorem dL_law__1463 : decode cL_law_ 1463 = .ok (.ifCond .eq 5, 3) := by decide +kernel
theorem dL_law__1466 : decode cL_law_ 1466 = .ok (.iconst 0, 1) := by decide +kernel
theorem dL_law__1467 : decode cL_law_ 1467 = .ok (.ireturn, 1) := by decide +kernel
theorem dL_law__1468 : decode cL_law_ 1468 = .ok (.goto 1217, 3) := by decide +kernel
theorem dL_law__1471 : decode cL_law_ 1471 = .ok (.aload_n 1, 1) := by decide +kernel
theorem dL_law__1472 : decode cL_law_ 1472 = .ok (.invokevirtual 210, 3) := by decide +kernel
theorem dL_law__1475 : decode cL_law_ 1475 = .ok (.aload_n 2, 1) := by decide +kernel
theorem dL_law__1476 : decode cL_law_ 1476 = .ok (.invokevirtual 213, 3) := by decide +kernel
theorem dL_law__1479 : decode cL_law_ 1479 = .ok (.if_icmp .eq 1206, 3) := by decide +kernel
theorem dL_law__1482 : decode cL_law_ 1482 = .ok (.iconst 0, 1) := by decide +kernel
theorem dL_law__1483 : decode cL_law_ 1483 = .ok (.ireturn, 1) := by decide +kernel
theorem dL_law__1484 : decode cL_law_ 1484 = .ok (.aload_n 1, 1) := by decide +kernel
theorem dL_law__1485 : decode cL_law_ 1485 = .ok (.aload_n 0, 1) := by decide +kernel
theorem dL_law__1486 : decode cL_law_ 1486 = .ok (.iload 4, 2) := by decide +kernel
theorem dL_law__1488 : decode cL_law_ 1488 = .ok (.iconst 1, 1) := by decide +kernel
theorem dL_law__1489 : decode cL_law_ 1489 = .ok (.iadd, 1) := by decide +kernel
theorem dL_law__1490 : decode cL_law_ 1490 = .ok (.iaload, 1) := by decide +kernel
theorem dL_law__1491 : decode cL_law_ 1491 = .ok (.aload_n 3, 1) := by decide +kernel
theorem dL_law__1492 : decode cL_law_ 1492 = .ok (.invokestatic 214, 3) := by decide +kernel
theorem dL_law__1495 : decode cL_law_ 1495 = .ok (.istore 5, 2) := by decide +kernel
theorem dL_law__1497 : decode cL_law_ 1497 = .ok (.aload_n 2, 1) := by decide +kernel
theorem dL_law__1498 : decode cL_law_ 1498 = .ok (.aload_n 0, 1) := by decide +kernel
theorem dL_law__1499 : decode cL_law_ 1499 = .ok (.iload 4, 2) := by decide +kernel
theorem dL_law__1501 : decode cL_law_ 1501 = .ok (.iconst 1, 1) := by decide +kernel
theorem dL_law__1502 : decode cL_law_ 1502 = .ok (.iadd, 1) := by decide +kernel
theorem dL_law__1503 : decode cL_law_ 1503 = .ok (.iaload, 1) := by decide +kernel
theorem dL_law__1504 : decode cL_law_ 1504 = .ok (.invokevirtual 216, 3) := by decide +kernel
theorem dL_law__1507 : decode cL_law_ 1507 = .ok (.istore 6, 2) := by decide +kernel
theorem dL_law__1509 : decode cL_law_ 1509 = .ok (.aload_n 2, 1) := by decide +kernel
theorem dL_law__1510 : decode cL_law_ 1510 = .ok (.invokevirtual 147, 3) := by decide +kernel
theorem dL_law__1513 : decode cL_law_ 1513 = .ok (.iload 5, 2) := by decide +kernel
theorem dL_law__1515 : decode cL_law_ 1515 = .ok (.if_icmp .eq 5, 3) := by decide +kernel
theorem dL_law__1518 : decode cL_law_ 1518 = .ok (.iconst 0, 1) := by decide +kernel
theorem dL_law__1519 : decode cL_law_ 1519 = .ok (.ireturn, 1) := by decide +kernel
theorem dL_law__1520 : decode cL_law_ 1520 = .ok (.iload 5, 2) := by decide +kernel
theorem dL_law__1522 : decode cL_law_ 1522 = .ok (.ifCond .ne 15, 3) := by decide +kernel
theorem dL_law__1525 : decode cL_law_ 1525 = .ok (.aload_n 3, 1) := by decide +kernel
theorem dL_law__1526 : decode cL_law_ 1526 = .ok (.iconst 0, 1) := by decide +kernel
theorem dL_law__1527 : decode cL_law_ 1527 = .ok (.laload, 1) := by decide +kernel
theorem dL_law__1528 : decode cL_law_ 1528 = .ok (.iload 6, 2) := by decide +kernel
theorem dL_law__1530 : decode cL_law_ 1530 = .ok (.i2l, 1) := by decide +kernel
theorem dL_law__1531 : decode cL_law_ 1531 = .ok (.lcmp, 1) := by decide +kernel
theorem dL_law__1532 : decode cL_law_ 1532 = .ok (.ifCond .eq 5, 3) := by decide +kernel
theorem dL_law__1535 : decode cL_law_ 1535 = .ok (.iconst 0, 1) := by decide +kernel
theorem dL_law__1536 : decode cL_law_ 1536 = .ok (.ireturn, 1) := by decide +kernel
theorem dL_law__1537 : decode cL_law_ 1537 = .ok (.goto 1148, 3) := by decide +kernel
theorem dL_law__1540 : decode cL_law_ 1540 = .ok (.aload_n 1, 1) := by decide +kernel
theorem dL_law__1541 : decode cL_law_ 1541 = .ok (.aload_n 0, 1) := by decide +kernel
theorem dL_law__1542 : decode cL_law_ 1542 = .ok (.iload 4, 2) := by decide +kernel
theorem dL_law__1544 : decode cL_law_ 1544 = .ok (.iconst 1, 1) := by decide +kernel
theorem dL_law__1545 : decode cL_law_ 1545 = .ok (.iadd, 1) := by decide +kernel
theorem dL_law__1546 : decode cL_law_ 1546 = .ok (.iaload, 1) := by decide +kernel
theorem dL_law__1547 : decode cL_law_ 1547 = .ok (.aload_n 3, 1) := by decide +kernel
theorem dL_law__1548 : decode cL_law_ 1548 = .ok (.invokestatic 217, 3) := by decide +kernel
theorem dL_law__1551 : decode cL_law_ 1551 = .ok (.istore 5, 2) := by decide +kernel
theorem dL_law__1553 : decode cL_law_ 1553 = .ok (.aload_n 2, 1) := by decide +kernel
theorem dL_law__1554 : decode cL_law_ 1554 = .ok (.aload_n 0, 1) := by decide +kernel
theorem dL_law__1555 : decode cL_law_ 1555 = .ok (.iload 4, 2) := by decide +kernel
theorem dL_law__1557 : decode cL_law_ 1557 = .ok (.iconst 1, 1) := by decide +kernel
theorem dL_law__1558 : decode cL_law_ 1558 = .ok (.iadd, 1) := by decide +kernel
theorem dL_law__1559 : decode cL_law_ 1559 = .ok (.iaload, 1) := by decide +kernel
theorem dL_law__1560 : decode cL_law_ 1560 = .ok (.invokevirtual 219, 3) := by decide +kernel
theorem dL_law__1563 : decode cL_law_ 1563 = .ok (.istore 6, 2) := by decide +kernel
theorem dL_law__1565 : decode cL_law_ 1565 = .ok (.aload_n 2, 1) := by decide +kernel
theorem dL_law__1566 : decode cL_law_ 1566 = .ok (.invokevirtual 147, 3) := by decide +kernel
theorem dL_law__1569 : decode cL_law_ 1569 = .ok (.iload 5, 2) := by decide +kernel
theorem dL_law__1571 : decode cL_law_ 1571 = .ok (.if_icmp .eq 5, 3) := by decide +kernel
theorem dL_law__1574 : decode cL_law_ 1574 = .ok (.iconst 0, 1) := by decide +kernel
theorem dL_law__1575 : decode cL_law_ 1575 = .ok (.ireturn, 1) := by decide +kernel
theorem dL_law__1576 : decode cL_law_ 1576 = .ok (.iload 5, 2) := by decide +kernel
theorem dL_law__1578 : decode cL_law_ 1578 = .ok (.ifCond .ne 15, 3) := by decide +kernel
theorem dL_law__1581 : decode cL_law_ 1581 = .ok (.aload_n 3, 1) := by decide +kernel
theorem dL_law__1582 : decode cL_law_ 1582 = .ok (.iconst 0, 1) := by decide +kernel
theorem dL_law__1583 : decode cL_law_ 1583 = .ok (.laload, 1) := by decide +kernel
theorem dL_law__1584 : decode cL_law_ 1584 = .ok (.iload 6, 2) := by decide +kernel
theorem dL_law__1586 : decode cL_law_ 1586 = .ok (.i2l, 1) := by decide +kernel
theorem dL_law__1587 : decode cL_law_ 1587 = .ok (.lcmp, 1) := by decide +kernel
theorem dL_law__1588 : decode cL_law_ 1588 = .ok (.ifCond .eq 5, 3) := by decide +kernel
theorem dL_law__1591 : decode cL_law_ 1591 = .ok (.iconst 0, 1) := by decide +kernel
theorem dL_law__1592 : decode cL_law_ 1592 = .ok (.ireturn, 1) := by decide +kernel
theorem dL_law__1593 : decode cL_law_ 1593 = .ok (.goto 1092, 3) := by decide +kernel
theorem dL_law__1596 : decode cL_law_ 1596 = .ok (.aload_n 1, 1) := by decide +kernel
theorem dL_law__1597 : decode cL_law_ 1597 = .ok (.invokevirtual 220, 3) := by decide +kernel
theorem dL_law__1600 : decode cL_law_ 1600 = .ok (.aload_n 2, 1) := by decide +kernel
theorem dL_law__1601 : decode cL_law_ 1601 = .ok (.invokevirtual 223, 3) := by decide +kernel
theorem dL_law__1604 : decode cL_law_ 1604 = .ok (.if_icmp .eq 1081, 3) := by decide +kernel
theorem dL_law__1607 : decode cL_law_ 1607 = .ok (.iconst 0, 1) := by decide +kernel
theorem dL_law__1608 : decode cL_law_ 1608 = .ok (.ireturn, 1) := by decide +kernel
theorem dL_law__1609 : decode cL_law_ 1609 = .ok (.aload_n 1, 1) := by decide +kernel
theorem dL_law__1610 : decode cL_law_ 1610 = .ok (.aload_n 0, 1) := by decide +kernel
theorem dL_law__1611 : decode cL_law_ 1611 = .ok (.iload 4, 2) := by decide +kernel
theorem dL_law__1613 : decode cL_law_ 1613 = .ok (.iconst 1, 1) := by decide +kernel
theorem dL_law__1614 : decode cL_law_ 1614 = .ok (.iadd, 1) := by decide +kernel
theorem dL_law__1615 : decode cL_law_ 1615 = .ok (.iaload, 1) := by decide +kernel
theorem dL_law__1616 : decode cL_law_ 1616 = .ok (.aload_n 3, 1) := by decide +kernel
theorem dL_law__1617 : decode cL_law_ 1617 = .ok (.invokestatic 224, 3) := by decide +kernel
theorem dL_law__1620 : decode cL_law_ 1620 = .ok (.istore 5, 2) := by decide +kernel
theorem dL_law__1622 : decode cL_law_ 1622 = .ok (.aload_n 2, 1) := by decide +kernel
theorem dL_law__1623 : decode cL_law_ 1623 = .ok (.aload_n 0, 1) := by decide +kernel
theorem dL_law__1624 : decode cL_law_ 1624 = .ok (.iload 4, 2) := by decide +kernel
theorem dL_law__1626 : decode cL_law_ 1626 = .ok (.iconst 1, 1) := by decide +kernel
theorem dL_law__1627 : decode cL_law_ 1627 = .ok (.iadd, 1) := by decide +kernel
theorem dL_law__1628 : decode cL_law_ 1628 = .ok (.iaload, 1) := by decide +kernel
theorem dL_law__1629 : decode cL_law_ 1629 = .ok (.invokevirtual 226, 3) := by decide +kernel
theorem dL_law__1632 : decode cL_law_ 1632 = .ok (.istore 6, 2) := by decide +kernel
theorem dL_law__1634 : decode cL_law_ 1634 = .ok (.aload_n 2, 1) := by decide +kernel
theorem dL_law__1635 : decode cL_law_ 1635 = .ok (.invokevirtual 147, 3) := by decide +kernel
theorem dL_law__1638 : decode cL_law_ 1638 = .ok (.iload 5, 2) := by decide +kernel
theorem dL_law__1640 : decode cL_law_ 1640 = .ok (.if_icmp .eq 5, 3) := by decide +kernel
theorem dL_law__1643 : decode cL_law_ 1643 = .ok (.iconst 0, 1) := by decide +kernel
theorem dL_law__1644 : decode cL_law_ 1644 = .ok (.ireturn, 1) := by decide +kernel
theorem dL_law__1645 : decode cL_law_ 1645 = .ok (.iload 5, 2) := by decide +kernel
theorem dL_law__1647 : decode cL_law_ 1647 = .ok (.ifCond .ne 15, 3) := by decide +kernel
theorem dL_law__1650 : decode cL_law_ 1650 = .ok (.aload_n 3, 1) := by decide +kernel
theorem dL_law__1651 : decode cL_law_ 1651 = .ok (.iconst 0, 1) := by decide +kernel
theorem dL_law__1652 : decode cL_law_ 1652 = .ok (.laload, 1) := by decide +kernel
theorem dL_law__1653 : decode cL_law_ 1653 = .ok (.iload 6, 2) := by decide +kernel
theorem dL_law__1655 : decode cL_law_ 1655 = .ok (.i2l, 1) := by decide +kernel
theorem dL_law__1656 : decode cL_law_ 1656 = .ok (.lcmp, 1) := by decide +kernel
theorem dL_law__1657 : decode cL_law_ 1657 = .ok (.ifCond .eq 5, 3) := by decide +kernel
theorem dL_law__1660 : decode cL_law_ 1660 = .ok (.iconst 0, 1) := by decide +kernel
theorem dL_law__1661 : decode cL_law_ 1661 = .ok (.ireturn, 1) := by decide +kernel
theorem dL_law__1662 : decode cL_law_ 1662 = .ok (.goto 1023, 3) := by decide +kernel
theorem dL_law__1665 : decode cL_law_ 1665 = .ok (.aload_n 1, 1) := by decide +kernel
theorem dL_law__1666 : decode cL_law_ 1666 = .ok (.aload_n 0, 1) := by decide +kernel
theorem dL_law__1667 : decode cL_law_ 1667 = .ok (.iload 4, 2) := by decide +kernel
theorem dL_law__1669 : decode cL_law_ 1669 = .ok (.iconst 1, 1) := by decide +kernel
theorem dL_law__1670 : decode cL_law_ 1670 = .ok (.iadd, 1) := by decide +kernel
theorem dL_law__1671 : decode cL_law_ 1671 = .ok (.iaload, 1) := by decide +kernel
theorem dL_law__1672 : decode cL_law_ 1672 = .ok (.aload_n 3, 1) := by decide +kernel
theorem dL_law__1673 : decode cL_law_ 1673 = .ok (.invokestatic 227, 3) := by decide +kernel
theorem dL_law__1676 : decode cL_law_ 1676 = .ok (.istore 5, 2) := by decide +kernel
theorem dL_law__1678 : decode cL_law_ 1678 = .ok (.aload_n 2, 1) := by decide +kernel
theorem dL_law__1679 : decode cL_law_ 1679 = .ok (.aload_n 0, 1) := by decide +kernel
theorem dL_law__1680 : decode cL_law_ 1680 = .ok (.iload 4, 2) := by decide +kernel
theorem dL_law__1682 : decode cL_law_ 1682 = .ok (.iconst 1, 1) := by decide +kernel
theorem dL_law__1683 : decode cL_law_ 1683 = .ok (.iadd, 1) := by decide +kernel
theorem dL_law__1684 : decode cL_law_ 1684 = .ok (.iaload, 1) := by decide +kernel
theorem dL_law__1685 : decode cL_law_ 1685 = .ok (.invokevirtual 229, 3) := by decide +kernel
theorem dL_law__1688 : decode cL_law_ 1688 = .ok (.istore 6, 2) := by decide +kernel
theorem dL_law__1690 : decode cL_law_ 1690 = .ok (.aload_n 2, 1) := by decide +kernel
theorem dL_law__1691 : decode cL_law_ 1691 = .ok (.invokevirtual 147, 3) := by decide +kernel
theorem dL_law__1694 : decode cL_law_ 1694 = .ok (.iload 5, 2) := by decide +kernel
theorem dL_law__1696 : decode cL_law_ 1696 = .ok (.if_icmp .eq 5, 3) := by decide +kernel
theorem dL_law__1699 : decode cL_law_ 1699 = .ok (.iconst 0, 1) := by decide +kernel
theorem dL_law__1700 : decode cL_law_ 1700 = .ok (.ireturn, 1) := by decide +kernel
theorem dL_law__1701 : decode cL_law_ 1701 = .ok (.iload 5, 2) := by decide +kernel
theorem dL_law__1703 : decode cL_law_ 1703 = .ok (.ifCond .ne 15, 3) := by decide +kernel
theorem dL_law__1706 : decode cL_law_ 1706 = .ok (.aload_n 3, 1) := by decide +kernel
theorem dL_law__1707 : decode cL_law_ 1707 = .ok (.iconst 0, 1) := by decide +kernel
theorem dL_law__1708 : decode cL_law_ 1708 = .ok (.laload, 1) := by decide +kernel
theorem dL_law__1709 : decode cL_law_ 1709 = .ok (.iload 6, 2) := by decide +kernel
theorem dL_law__1711 : decode cL_law_ 1711 = .ok (.i2l, 1) := by decide +kernel
theorem dL_law__1712 : decode cL_law_ 1712 = .ok (.lcmp, 1) := by decide +kernel
theorem dL_law__1713 : decode cL_law_ 1713 = .ok (.ifCond .eq 5, 3) := by decide +kernel
theorem dL_law__1716 : decode cL_law_ 1716 = .ok (.iconst 0, 1) := by decide +kernel
theorem dL_law__1717 : decode cL_law_ 1717 = .ok (.ireturn, 1) := by decide +kernel
theorem dL_law__1718 : decode cL_law_ 1718 = .ok (.goto 967, 3) := by decide +kernel
theorem dL_law__1721 : decode cL_law_ 1721 = .ok (.aload_n 1, 1) := by decide +kernel
theorem dL_law__1722 : decode cL_law_ 1722 = .ok (.aload_n 0, 1) := by decide +kernel
theorem dL_law__1723 : decode cL_law_ 1723 = .ok (.iload 4, 2) := by decide +kernel
theorem dL_law__1725 : decode cL_law_ 1725 = .ok (.iconst 1, 1) := by decide +kernel
theorem dL_law__1726 : decode cL_law_ 1726 = .ok (.iadd, 1) := by decide +kernel
theorem dL_law__1727 : decode cL_law_ 1727 = .ok (.iaload, 1) := by decide +kernel
theorem dL_law__1728 : decode cL_law_ 1728 = .ok (.aload_n 3, 1) := by decide +kernel
theorem dL_law__1729 : decode cL_law_ 1729 = .ok (.invokestatic 230, 3) := by decide +kernel
theorem dL_law__1732 : decode cL_law_ 1732 = .ok (.istore 5, 2) := by decide +kernel
theorem dL_law__1734 : decode cL_law_ 1734 = .ok (.aload_n 2, 1) := by decide +kernel
theorem dL_law__1735 : decode cL_law_ 1735 = .ok (.aload_n 0, 1) := by decide +kernel
theorem dL_law__1736 : decode cL_law_ 1736 = .ok (.iload 4, 2) := by decide +kernel
theorem dL_law__1738 : decode cL_law_ 1738 = .ok (.iconst 1, 1) := by decide +kernel
theorem dL_law__1739 : decode cL_law_ 1739 = .ok (.iadd, 1) := by decide +kernel
theorem dL_law__1740 : decode cL_law_ 1740 = .ok (.iaload, 1) := by decide +kernel
theorem dL_law__1741 : decode cL_law_ 1741 = .ok (.invokevirtual 232, 3) := by decide +kernel
theorem dL_law__1744 : decode cL_law_ 1744 = .ok (.istore 6, 2) := by decide +kernel
theorem dL_law__1746 : decode cL_law_ 1746 = .ok (.aload_n 2, 1) := by decide +kernel
theorem dL_law__1747 : decode cL_law_ 1747 = .ok (.invokevirtual 147, 3) := by decide +kernel
theorem dL_law__1750 : decode cL_law_ 1750 = .ok (.iload 5, 2) := by decide +kernel
theorem dL_law__1752 : decode cL_law_ 1752 = .ok (.if_icmp .eq 5, 3) := by decide +kernel
theorem dL_law__1755 : decode cL_law_ 1755 = .ok (.iconst 0, 1) := by decide +kernel
theorem dL_law__1756 : decode cL_law_ 1756 = .ok (.ireturn, 1) := by decide +kernel
theorem dL_law__1757 : decode cL_law_ 1757 = .ok (.iload 5, 2) := by decide +kernel
theorem dL_law__1759 : decode cL_law_ 1759 = .ok (.ifCond .ne 15, 3) := by decide +kernel
theorem dL_law__1762 : decode cL_law_ 1762 = .ok (.aload_n 3, 1) := by decide +kernel
theorem dL_law__1763 : decode cL_law_ 1763 = .ok (.iconst 0, 1) := by decide +kernel
theorem dL_law__1764 : decode cL_law_ 1764 = .ok (.laload, 1) := by decide +kernel
theorem dL_law__1765 : decode cL_law_ 1765 = .ok (.iload 6, 2) := by decide +kernel
theorem dL_law__1767 : decode cL_law_ 1767 = .ok (.i2l, 1) := by decide +kernel
theorem dL_law__1768 : decode cL_law_ 1768 = .ok (.lcmp, 1) := by decide +kernel
theorem dL_law__1769 : decode cL_law_ 1769 = .ok (.ifCond .eq 5, 3) := by decide +kernel
theorem dL_law__1772 : decode cL_law_ 1772 = .ok (.iconst 0, 1) := by decide +kernel
theorem dL_law__1773 : decode cL_law_ 1773 = .ok (.ireturn, 1) := by decide +kernel
theorem dL_law__1774 : decode cL_law_ 1774 = .ok (.goto 911, 3) := by decide +kernel
theorem dL_law__1777 : decode cL_law_ 1777 = .ok (.aload_n 1, 1) := by decide +kernel
theorem dL_law__1778 : decode cL_law_ 1778 = .ok (.aload_n 0, 1) := by decide +kernel
theorem dL_law__1779 : decode cL_law_ 1779 = .ok (.iload 4, 2) := by decide +kernel
theorem dL_law__1781 : decode cL_law_ 1781 = .ok (.iconst 1, 1) := by decide +kernel
theorem dL_law__1782 : decode cL_law_ 1782 = .ok (.iadd, 1) := by decide +kernel
theorem dL_law__1783 : decode cL_law_ 1783 = .ok (.iaload, 1) := by decide +kernel
theorem dL_law__1784 : decode cL_law_ 1784 = .ok (.aload_n 0, 1) := by decide +kernel
theorem dL_law__1785 : decode cL_law_ 1785 = .ok (.iload 4, 2) := by decide +kernel
theorem dL_law__1787 : decode cL_law_ 1787 = .ok (.iconst 2, 1) := by decide +kernel
theorem dL_law__1788 : decode cL_law_ 1788 = .ok (.iadd, 1) := by decide +kernel
theorem dL_law__1789 : decode cL_law_ 1789 = .ok (.iaload, 1) := by decide +kernel
theorem dL_law__1790 : decode cL_law_ 1790 = .ok (.aload_n 3, 1) := by decide +kernel
theorem dL_law__1791 : decode cL_law_ 1791 = .ok (.invokestatic 233, 3) := by decide +kernel
theorem dL_law__1794 : decode cL_law_ 1794 = .ok (.istore 5, 2) := by decide +kernel
theorem dL_law__1796 : decode cL_law_ 1796 = .ok (.aload_n 2, 1) := by decide +kernel
theorem dL_law__1797 : decode cL_law_ 1797 = .ok (.aload_n 0, 1) := by decide +kernel
theorem dL_law__1798 : decode cL_law_ 1798 = .ok (.iload 4, 2) := by decide +kernel
theorem dL_law__1800 : decode cL_law_ 1800 = .ok (.iconst 1, 1) := by decide +kernel
theorem dL_law__1801 : decode cL_law_ 1801 = .ok (.iadd, 1) := by decide +kernel
theorem dL_law__1802 : decode cL_law_ 1802 = .ok (.iaload, 1) := by decide +kernel
theorem dL_law__1803 : decode cL_law_ 1803 = .ok (.aload_n 0, 1) := by decide +kernel
theorem dL_law__1804 : decode cL_law_ 1804 = .ok (.iload 4, 2) := by decide +kernel
theorem dL_law__1806 : decode cL_law_ 1806 = .ok (.iconst 2, 1) := by decide +kernel
theorem dL_law__1807 : decode cL_law_ 1807 = .ok (.iadd, 1) := by decide +kernel
theorem dL_law__1808 : decode cL_law_ 1808 = .ok (.iaload, 1) := by decide +kernel
theorem dL_law__1809 : decode cL_law_ 1809 = .ok (.invokevirtual 235, 3) := by decide +kernel
theorem dL_law__1812 : decode cL_law_ 1812 = .ok (.istore 6, 2) := by decide +kernel
theorem dL_law__1814 : decode cL_law_ 1814 = .ok (.aload_n 2, 1) := by decide +kernel
theorem dL_law__1815 : decode cL_law_ 1815 = .ok (.invokevirtual 147, 3) := by decide +kernel
theorem dL_law__1818 : decode cL_law_ 1818 = .ok (.iload 5, 2) := by decide +kernel
theorem dL_law__1820 : decode cL_law_ 1820 = .ok (.if_icmp .eq 5, 3) := by decide +kernel
theorem dL_law__1823 : decode cL_law_ 1823 = .ok (.iconst 0, 1) := by decide +kernel
theorem dL_law__1824 : decode cL_law_ 1824 = .ok (.ireturn, 1) := by decide +kernel
theorem dL_law__1825 : decode cL_law_ 1825 = .ok (.iload 5, 2) := by decide +kernel
theorem dL_law__1827 : decode cL_law_ 1827 = .ok (.ifCond .ne 22, 3) := by decide +kernel
theorem dL_law__1830 : decode cL_law_ 1830 = .ok (.aload_n 3, 1) := by decide +kernel
theorem dL_law__1831 : decode cL_law_ 1831 = .ok (.iconst 0, 1) := by decide +kernel
theorem dL_law__1832 : decode cL_law_ 1832 = .ok (.laload, 1) := by decide +kernel
theorem dL_law__1833 : decode cL_law_ 1833 = .ok (.iload 6, 2) := by decide +kernel
theorem dL_law__1835 : decode cL_law_ 1835 = .ok (.ifCond .eq 7, 3) := by decide +kernel
theorem dL_law__1838 : decode cL_law_ 1838 = .ok (.lconst 1, 1) := by decide +kernel
theorem dL_law__1839 : decode cL_law_ 1839 = .ok (.goto 4, 3) := by decide +kernel
theorem dL_law__1842 : decode cL_law_ 1842 = .ok (.lconst 0, 1) := by decide +kernel
theorem dL_law__1843 : decode cL_law_ 1843 = .ok (.lcmp, 1) := by decide +kernel
theorem dL_law__1844 : decode cL_law_ 1844 = .ok (.ifCond .eq 5, 3) := by decide +kernel
theorem dL_law__1847 : decode cL_law_ 1847 = .ok (.iconst 0, 1) := by decide +kernel
theorem dL_law__1848 : decode cL_law_ 1848 = .ok (.ireturn, 1) := by decide +kernel
theorem dL_law__1849 : decode cL_law_ 1849 = .ok (.goto 836, 3) := by decide +kernel
theorem dL_law__1852 : decode cL_law_ 1852 = .ok (.aload_n 1, 1) := by decide +kernel
theorem dL_law__1853 : decode cL_law_ 1853 = .ok (.invokevirtual 236, 3) := by decide +kernel
theorem dL_law__1856 : decode cL_law_ 1856 = .ok (.aload_n 2, 1) := by decide +kernel
theorem dL_law__1857 : decode cL_law_ 1857 = .ok (.invokevirtual 239, 3) := by decide +kernel
theorem dL_law__1860 : decode cL_law_ 1860 = .ok (.if_icmp .eq 825, 3) := by decide +kernel
theorem dL_law__1863 : decode cL_law_ 1863 = .ok (.iconst 0, 1) := by decide +kernel
theorem dL_law__1864 : decode cL_law_ 1864 = .ok (.ireturn, 1) := by decide +kernel
theorem dL_law__1865 : decode cL_law_ 1865 = .ok (.aload_n 1, 1) := by decide +kernel
theorem dL_law__1866 : decode cL_law_ 1866 = .ok (.invokevirtual 240, 3) := by decide +kernel
theorem dL_law__1869 : decode cL_law_ 1869 = .ok (.aload_n 2, 1) := by decide +kernel
theorem dL_law__1870 : decode cL_law_ 1870 = .ok (.invokevirtual 243, 3) := by decide +kernel
theorem dL_law__1873 : decode cL_law_ 1873 = .ok (.if_icmp .eq 812, 3) := by decide +kernel
theorem dL_law__1876 : decode cL_law_ 1876 = .ok (.iconst 0, 1) := by decide +kernel
theorem dL_law__1877 : decode cL_law_ 1877 = .ok (.ireturn, 1) := by decide +kernel
theorem dL_law__1878 : decode cL_law_ 1878 = .ok (.aload_n 1, 1) := by decide +kernel
theorem dL_law__1879 : decode cL_law_ 1879 = .ok (.invokevirtual 244, 3) := by decide +kernel
theorem dL_law__1882 : decode cL_law_ 1882 = .ok (.aload_n 2, 1) := by decide +kernel
theorem dL_law__1883 : decode cL_law_ 1883 = .ok (.invokevirtual 247, 3) := by decide +kernel
theorem dL_law__1886 : decode cL_law_ 1886 = .ok (.if_icmp .eq 799, 3) := by decide +kernel
theorem dL_law__1889 : decode cL_law_ 1889 = .ok (.iconst 0, 1) := by decide +kernel
theorem dL_law__1890 : decode cL_law_ 1890 = .ok (.ireturn, 1) := by decide +kernel
theorem dL_law__1891 : decode cL_law_ 1891 = .ok (.aload_n 1, 1) := by decide +kernel
theorem dL_law__1892 : decode cL_law_ 1892 = .ok (.aload_n 0, 1) := by decide +kernel
theorem dL_law__1893 : decode cL_law_ 1893 = .ok (.iload 4, 2) := by decide +kernel
theorem dL_law__1895 : decode cL_law_ 1895 = .ok (.iconst 1, 1) := by decide +kernel
theorem dL_law__1896 : decode cL_law_ 1896 = .ok (.iadd, 1) := by decide +kernel
theorem dL_law__1897 : decode cL_law_ 1897 = .ok (.iaload, 1) := by decide +kernel
theorem dL_law__1898 : decode cL_law_ 1898 = .ok (.ifCond .eq 7, 3) := by decide +kernel
theorem dL_law__1901 : decode cL_law_ 1901 = .ok (.iconst 1, 1) := by decide +kernel
theorem dL_law__1902 : decode cL_law_ 1902 = .ok (.goto 4, 3) := by decide +kernel
theorem dL_law__1905 : decode cL_law_ 1905 = .ok (.iconst 0, 1) := by decide +kernel
theorem dL_law__1906 : decode cL_law_ 1906 = .ok (.aload_n 3, 1) := by decide +kernel
theorem dL_law__1907 : decode cL_law_ 1907 = .ok (.invokestatic 248, 3) := by decide +kernel
theorem dL_law__1910 : decode cL_law_ 1910 = .ok (.istore 5, 2) := by decide +kernel
theorem dL_law__1912 : decode cL_law_ 1912 = .ok (.aload_n 2, 1) := by decide +kernel
theorem dL_law__1913 : decode cL_law_ 1913 = .ok (.aload_n 0, 1) := by decide +kernel
theorem dL_law__1914 : decode cL_law_ 1914 = .ok (.iload 4, 2) := by decide +kernel
theorem dL_law__1916 : decode cL_law_ 1916 = .ok (.iconst 1, 1) := by decide +kernel
theorem dL_law__1917 : decode cL_law_ 1917 = .ok (.iadd, 1) := by decide +kernel
theorem dL_law__1918 : decode cL_law_ 1918 = .ok (.iaload, 1) := by decide +kernel
theorem dL_law__1919 : decode cL_law_ 1919 = .ok (.ifCond .eq 7, 3) := by decide +kernel
theorem dL_law__1922 : decode cL_law_ 1922 = .ok (.iconst 1, 1) := by decide +kernel
theorem dL_law__1923 : decode cL_law_ 1923 = .ok (.goto 4, 3) := by decide +kernel
theorem dL_law__1926 : decode cL_law_ 1926 = .ok (.iconst 0, 1) := by decide +kernel
theorem dL_law__1927 : decode cL_law_ 1927 = .ok (.invokevirtual 251, 3) := by decide +kernel
theorem dL_law__1930 : decode cL_law_ 1930 = .ok (.istore 6, 2) := by decide +kernel
theorem dL_law__1932 : decode cL_law_ 1932 = .ok (.aload_n 2, 1) := by decide +kernel
theorem dL_law__1933 : decode cL_law_ 1933 = .ok (.invokevirtual 147, 3) := by decide +kernel
theorem dL_law__1936 : decode cL_law_ 1936 = .ok (.iload 5, 2) := by decide +kernel
theorem dL_law__1938 : decode cL_law_ 1938 = .ok (.if_icmp .eq 5, 3) := by decide +kernel
theorem dL_law__1941 : decode cL_law_ 1941 = .ok (.iconst 0, 1) := by decide +kernel
theorem dL_law__1942 : decode cL_law_ 1942 = .ok (.ireturn, 1) := by decide +kernel
theorem dL_law__1943 : decode cL_law_ 1943 = .ok (.iload 5, 2) := by decide +kernel
theorem dL_law__1945 : decode cL_law_ 1945 = .ok (.ifCond .ne 15, 3) := by decide +kernel
theorem dL_law__1948 : decode cL_law_ 1948 = .ok (.aload_n 3, 1) := by decide +kernel
theorem dL_law__1949 : decode cL_law_ 1949 = .ok (.iconst 0, 1) := by decide +kernel
theorem dL_law__1950 : decode cL_law_ 1950 = .ok (.laload, 1) := by decide +kernel
theorem dL_law__1951 : decode cL_law_ 1951 = .ok (.iload 6, 2) := by decide +kernel
theorem dL_law__1953 : decode cL_law_ 1953 = .ok (.i2l, 1) := by decide +kernel
theorem dL_law__1954 : decode cL_law_ 1954 = .ok (.lcmp, 1) := by decide +kernel
theorem dL_law__1955 : decode cL_law_ 1955 = .ok (.ifCond .eq 5, 3) := by decide +kernel
theorem dL_law__1958 : decode cL_law_ 1958 = .ok (.iconst 0, 1) := by decide +kernel
theorem dL_law__1959 : decode cL_law_ 1959 = .ok (.ireturn, 1) := by decide +kernel
theorem dL_law__1960 : decode cL_law_ 1960 = .ok (.goto 725, 3) := by decide +kernel
theorem dL_law__1963 : decode cL_law_ 1963 = .ok (.aload_n 1, 1) := by decide +kernel
theorem dL_law__1964 : decode cL_law_ 1964 = .ok (.aload_n 3, 1) := by decide +kernel
theorem dL_law__1965 : decode cL_law_ 1965 = .ok (.invokestatic 252, 3) := by decide +kernel
theorem dL_law__1968 : decode cL_law_ 1968 = .ok (.istore 5, 2) := by decide +kernel
theorem dL_law__1970 : decode cL_law_ 1970 = .ok (.aload_n 2, 1) := by decide +kernel
theorem dL_law__1971 : decode cL_law_ 1971 = .ok (.invokevirtual 254, 3) := by decide +kernel
theorem dL_law__1974 : decode cL_law_ 1974 = .ok (.istore 6, 2) := by decide +kernel
theorem dL_law__1976 : decode cL_law_ 1976 = .ok (.aload_n 2, 1) := by decide +kernel
theorem dL_law__1977 : decode cL_law_ 1977 = .ok (.invokevirtual 147, 3) := by decide +kernel
theorem dL_law__1980 : decode cL_law_ 1980 = .ok (.iload 5, 2) := by decide +kernel
theorem dL_law__1982 : decode cL_law_ 1982 = .ok (.if_icmp .eq 5, 3) := by decide +kernel
theorem dL_law__1985 : decode cL_law_ 1985 = .ok (.iconst 0, 1) := by decide +kernel
theorem dL_law__1986 : decode cL_law_ 1986 = .ok (.ireturn, 1) := by decide +kernel
theorem dL_law__1987 : decode cL_law_ 1987 = .ok (.iload 5, 2) := by decide +kernel
theorem dL_law__1989 : decode cL_law_ 1989 = .ok (.ifCond .ne 15, 3) := by decide +kernel
theorem dL_law__1992 : decode cL_law_ 1992 = .ok (.aload_n 3, 1) := by decide +kernel
theorem dL_law__1993 : decode cL_law_ 1993 = .ok (.iconst 0, 1) := by decide +kernel
theorem dL_law__1994 : decode cL_law_ 1994 = .ok (.laload, 1) := by decide +kernel
theorem dL_law__1995 : decode cL_law_ 1995 = .ok (.iload 6, 2) := by decide +kernel
theorem dL_law__1997 : decode cL_law_ 1997 = .ok (.i2l, 1) := by decide +kernel
theorem dL_law__1998 : decode cL_law_ 1998 = .ok (.lcmp, 1) := by decide +kernel
theorem dL_law__1999 : decode cL_law_ 1999 = .ok (.ifCond .eq 5, 3) := by decide +kernel
theorem dL_law__2002 : decode cL_law_ 2002 = .ok (.iconst 0, 1) := by decide +kernel
theorem dL_law__2003 : decode cL_law_ 2003 = .ok (.ireturn, 1) := by decide +kernel
theorem dL_law__2004 : decode cL_law_ 2004 = .ok (.goto 681, 3) := by decide +kernel
theorem dL_law__2007 : decode cL_law_ 2007 = .ok (.aload_n 1, 1) := by decide +kernel
theorem dL_law__2008 : decode cL_law_ 2008 = .ok (.aload_n 0, 1) := by decide +kernel
theorem dL_law__2009 : decode cL_law_ 2009 = .ok (.iload 4, 2) := by decide +kernel
theorem dL_law__2011 : decode cL_law_ 2011 = .ok (.iconst 1, 1) := by decide +kernel
theorem dL_law__2012 : decode cL_law_ 2012 = .ok (.iadd, 1) := by decide +kernel
theorem dL_law__2013 : decode cL_law_ 2013 = .ok (.iaload, 1) := by decide +kernel
theorem dL_law__2014 : decode cL_law_ 2014 = .ok (.aload_n 3, 1) := by decide +kernel
theorem dL_law__2015 : decode cL_law_ 2015 = .ok (.invokestatic 255, 3) := by decide +kernel
theorem dL_law__2018 : decode cL_law_ 2018 = .ok (.istore 5, 2) := by decide +kernel
theorem dL_law__2020 : decode cL_law_ 2020 = .ok (.aload_n 2, 1) := by decide +kernel
theorem dL_law__2021 : decode cL_law_ 2021 = .ok (.aload_n 0, 1) := by decide +kernel
theorem dL_law__2022 : decode cL_law_ 2022 = .ok (.iload 4, 2) := by decide +kernel
theorem dL_law__2024 : decode cL_law_ 2024 = .ok (.iconst 1, 1) := by decide +kernel
theorem dL_law__2025 : decode cL_law_ 2025 = .ok (.iadd, 1) := by decide +kernel
theorem dL_law__2026 : decode cL_law_ 2026 = .ok (.iaload, 1) := by decide +kernel
theorem dL_law__2027 : decode cL_law_ 2027 = .ok (.invokevirtual 257, 3) := by decide +kernel
theorem dL_law__2030 : decode cL_law_ 2030 = .ok (.istore 6, 2) := by decide +kernel
theorem dL_law__2032 : decode cL_law_ 2032 = .ok (.aload_n 2, 1) := by decide +kernel
theorem dL_law__2033 : decode cL_law_ 2033 = .ok (.invokevirtual 147, 3) := by decide +kernel
theorem dL_law__2036 : decode cL_law_ 2036 = .ok (.iload 5, 2) := by decide +kernel
theorem dL_law__2038 : decode cL_law_ 2038 = .ok (.if_icmp .eq 5, 3) := by decide +kernel
theorem dL_law__2041 : decode cL_law_ 2041 = .ok (.iconst 0, 1) := by decide +kernel
theorem dL_law__2042 : decode cL_law_ 2042 = .ok (.ireturn, 1) := by decide +kernel
theorem dL_law__2043 : decode cL_law_ 2043 = .ok (.iload 5, 2) := by decide +kernel
theorem dL_law__2045 : decode cL_law_ 2045 = .ok (.ifCond .ne 15, 3) := by decide +kernel
theorem dL_law__2048 : decode cL_law_ 2048 = .ok (.aload_n 3, 1) := by decide +kernel
theorem dL_law__2049 : decode cL_law_ 2049 = .ok (.iconst 0, 1) := by decide +kernel
theorem dL_law__2050 : decode cL_law_ 2050 = .ok (.laload, 1) := by decide +kernel
theorem dL_law__2051 : decode cL_law_ 2051 = .ok (.iload 6, 2) := by decide +kernel
theorem dL_law__2053 : decode cL_law_ 2053 = .ok (.i2l, 1) := by decide +kernel
theorem dL_law__2054 : decode cL_law_ 2054 = .ok (.lcmp, 1) := by decide +kernel
theorem dL_law__2055 : decode cL_law_ 2055 = .ok (.ifCond .eq 5, 3) := by decide +kernel
theorem dL_law__2058 : decode cL_law_ 2058 = .ok (.iconst 0, 1) := by decide +kernel
theorem dL_law__2059 : decode cL_law_ 2059 = .ok (.ireturn, 1) := by decide +kernel
theorem dL_law__2060 : decode cL_law_ 2060 = .ok (.goto 625, 3) := by decide +kernel
theorem dL_law__2063 : decode cL_law_ 2063 = .ok (.aload_n 1, 1) := by decide +kernel
theorem dL_law__2064 : decode cL_law_ 2064 = .ok (.aload_n 0, 1) := by decide +kernel
theorem dL_law__2065 : decode cL_law_ 2065 = .ok (.iload 4, 2) := by decide +kernel
theorem dL_law__2067 : decode cL_law_ 2067 = .ok (.iconst 1, 1) := by decide +kernel
theorem dL_law__2068 : decode cL_law_ 2068 = .ok (.iadd, 1) := by decide +kernel
theorem dL_law__2069 : decode cL_law_ 2069 = .ok (.iaload, 1) := by decide +kernel
theorem dL_law__2070 : decode cL_law_ 2070 = .ok (.aload_n 3, 1) := by decide +kernel
theorem dL_law__2071 : decode cL_law_ 2071 = .ok (.invokestatic 258, 3) := by decide +kernel
theorem dL_law__2074 : decode cL_law_ 2074 = .ok (.istore 5, 2) := by decide +kernel
theorem dL_law__2076 : decode cL_law_ 2076 = .ok (.aload_n 2, 1) := by decide +kernel
theorem dL_law__2077 : decode cL_law_ 2077 = .ok (.aload_n 0, 1) := by decide +kernel
theorem dL_law__2078 : decode cL_law_ 2078 = .ok (.iload 4, 2) := by decide +kernel
theorem dL_law__2080 : decode cL_law_ 2080 = .ok (.iconst 1, 1) := by decide +kernel
theorem dL_law__2081 : decode cL_law_ 2081 = .ok (.iadd, 1) := by decide +kernel
theorem dL_law__2082 : decode cL_law_ 2082 = .ok (.iaload, 1) := by decide +kernel
theorem dL_law__2083 : decode cL_law_ 2083 = .ok (.invokevirtual 260, 3) := by decide +kernel
theorem dL_law__2086 : decode cL_law_ 2086 = .ok (.istore 6, 2) := by decide +kernel
theorem dL_law__2088 : decode cL_law_ 2088 = .ok (.aload_n 2, 1) := by decide +kernel
theorem dL_law__2089 : decode cL_law_ 2089 = .ok (.invokevirtual 147, 3) := by decide +kernel
theorem dL_law__2092 : decode cL_law_ 2092 = .ok (.iload 5, 2) := by decide +kernel
theorem dL_law__2094 : decode cL_law_ 2094 = .ok (.if_icmp .eq 5, 3) := by decide +kernel
theorem dL_law__2097 : decode cL_law_ 2097 = .ok (.iconst 0, 1) := by decide +kernel
theorem dL_law__2098 : decode cL_law_ 2098 = .ok (.ireturn, 1) := by decide +kernel
theorem dL_law__2099 : decode cL_law_ 2099 = .ok (.iload 5, 2) := by decide +kernel
theorem dL_law__2101 : decode cL_law_ 2101 = .ok (.ifCond .ne 15, 3) := by decide +kernel
theorem dL_law__2104 : decode cL_law_ 2104 = .ok (.aload_n 3, 1) := by decide +kernel
theorem dL_law__2105 : decode cL_law_ 2105 = .ok (.iconst 0, 1) := by decide +kernel
theorem dL_law__2106 : decode cL_law_ 2106 = .ok (.laload, 1) := by decide +kernel
theorem dL_law__2107 : decode cL_law_ 2107 = .ok (.iload 6, 2) := by decide +kernel
theorem dL_law__2109 : decode cL_law_ 2109 = .ok (.i2l, 1) := by decide +kernel
theorem dL_law__2110 : decode cL_law_ 2110 = .ok (.lcmp, 1) := by decide +kernel
theorem dL_law__2111 : decode cL_law_ 2111 = .ok (.ifCond .eq 5, 3) := by decide +kernel
theorem dL_law__2114 : decode cL_law_ 2114 = .ok (.iconst 0, 1) := by decide +kernel
theorem dL_law__2115 : decode cL_law_ 2115 = .ok (.ireturn, 1) := by decide +kernel
theorem dL_law__2116 : decode cL_law_ 2116 = .ok (.goto 569, 3) := by decide +kernel
theorem dL_law__2119 : decode cL_law_ 2119 = .ok (.aload_n 1, 1) := by decide +kernel
theorem dL_law__2120 : decode cL_law_ 2120 = .ok (.invokevirtual 261, 3) := by decide +kernel
theorem dL_law__2123 : decode cL_law_ 2123 = .ok (.aload_n 2, 1) := by decide +kernel
theorem dL_law__2124 : decode cL_law_ 2124 = .ok (.invokevirtual 264, 3) := by decide +kernel
theorem dL_law__2127 : decode cL_law_ 2127 = .ok (.if_icmp .eq 558, 3) := by decide +kernel
theorem dL_law__2130 : decode cL_law_ 2130 = .ok (.iconst 0, 1) := by decide +kernel
theorem dL_law__2131 : decode cL_law_ 2131 = .ok (.ireturn, 1) := by decide +kernel
theorem dL_law__2132 : decode cL_law_ 2132 = .ok (.aload_n 1, 1) := by decide +kernel
theorem dL_law__2133 : decode cL_law_ 2133 = .ok (.invokevirtual 265, 3) := by decide +kernel
theorem dL_law__2136 : decode cL_law_ 2136 = .ok (.aload_n 2, 1) := by decide +kernel
theorem dL_law__2137 : decode cL_law_ 2137 = .ok (.invokevirtual 268, 3) := by decide +kernel
theorem dL_law__2140 : decode cL_law_ 2140 = .ok (.if_icmp .eq 545, 3) := by decide +kernel
theorem dL_law__2143 : decode cL_law_ 2143 = .ok (.iconst 0, 1) := by decide +kernel
theorem dL_law__2144 : decode cL_law_ 2144 = .ok (.ireturn, 1) := by decide +kernel
theorem dL_law__2145 : decode cL_law_ 2145 = .ok (.aload_n 1, 1) := by decide +kernel
theorem dL_law__2146 : decode cL_law_ 2146 = .ok (.invokevirtual 269, 3) := by decide +kernel
theorem dL_law__2149 : decode cL_law_ 2149 = .ok (.aload_n 2, 1) := by decide +kernel
theorem dL_law__2150 : decode cL_law_ 2150 = .ok (.invokevirtual 272, 3) := by decide +kernel
theorem dL_law__2153 : decode cL_law_ 2153 = .ok (.if_icmp .eq 532, 3) := by decide +kernel
theorem dL_law__2156 : decode cL_law_ 2156 = .ok (.iconst 0, 1) := by decide +kernel
theorem dL_law__2157 : decode cL_law_ 2157 = .ok (.ireturn, 1) := by decide +kernel
theorem dL_law__2158 : decode cL_law_ 2158 = .ok (.aload_n 1, 1) := by decide +kernel
theorem dL_law__2159 : decode cL_law_ 2159 = .ok (.invokevirtual 273, 3) := by decide +kernel
theorem dL_law__2162 : decode cL_law_ 2162 = .ok (.aload_n 2, 1) := by decide +kernel
theorem dL_law__2163 : decode cL_law_ 2163 = .ok (.invokevirtual 276, 3) := by decide +kernel
theorem dL_law__2166 : decode cL_law_ 2166 = .ok (.if_icmp .eq 519, 3) := by decide +kernel
theorem dL_law__2169 : decode cL_law_ 2169 = .ok (.iconst 0, 1) := by decide +kernel
theorem dL_law__2170 : decode cL_law_ 2170 = .ok (.ireturn, 1) := by decide +kernel
theorem dL_law__2171 : decode cL_law_ 2171 = .ok (.aload_n 1, 1) := by decide +kernel
theorem dL_law__2172 : decode cL_law_ 2172 = .ok (.invokevirtual 277, 3) := by decide +kernel
theorem dL_law__2175 : decode cL_law_ 2175 = .ok (.aload_n 2, 1) := by decide +kernel
theorem dL_law__2176 : decode cL_law_ 2176 = .ok (.invokevirtual 280, 3) := by decide +kernel
theorem dL_law__2179 : decode cL_law_ 2179 = .ok (.if_icmp .eq 506, 3) := by decide +kernel
theorem dL_law__2182 : decode cL_law_ 2182 = .ok (.iconst 0, 1) := by decide +kernel
theorem dL_law__2183 : decode cL_law_ 2183 = .ok (.ireturn, 1) := by decide +kernel
theorem dL_law__2184 : decode cL_law_ 2184 = .ok (.aload_n 1, 1) := by decide +kernel
theorem dL_law__2185 : decode cL_law_ 2185 = .ok (.invokevirtual 281, 3) := by decide +kernel
theorem dL_law__2188 : decode cL_law_ 2188 = .ok (.aload_n 2, 1) := by decide +kernel
theorem dL_law__2189 : decode cL_law_ 2189 = .ok (.invokevirtual 284, 3) := by decide +kernel
theorem dL_law__2192 : decode cL_law_ 2192 = .ok (.if_icmp .eq 493, 3) := by decide +kernel
theorem dL_law__2195 : decode cL_law_ 2195 = .ok (.iconst 0, 1) := by decide +kernel
theorem dL_law__2196 : decode cL_law_ 2196 = .ok (.ireturn, 1) := by decide +kernel
theorem dL_law__2197 : decode cL_law_ 2197 = .ok (.aload_n 1, 1) := by decide +kernel
theorem dL_law__2198 : decode cL_law_ 2198 = .ok (.invokevirtual 285, 3) := by decide +kernel
theorem dL_law__2201 : decode cL_law_ 2201 = .ok (.aload_n 2, 1) := by decide +kernel
theorem dL_law__2202 : decode cL_law_ 2202 = .ok (.invokevirtual 288, 3) := by decide +kernel
theorem dL_law__2205 : decode cL_law_ 2205 = .ok (.if_icmp .eq 480, 3) := by decide +kernel
theorem dL_law__2208 : decode cL_law_ 2208 = .ok (.iconst 0, 1) := by decide +kernel
theorem dL_law__2209 : decode cL_law_ 2209 = .ok (.ireturn, 1) := by decide +kernel
theorem dL_law__2210 : decode cL_law_ 2210 = .ok (.aload_n 1, 1) := by decide +kernel
theorem dL_law__2211 : decode cL_law_ 2211 = .ok (.aload_n 0, 1) := by decide +kernel
theorem dL_law__2212 : decode cL_law_ 2212 = .ok (.iload 4, 2) := by decide +kernel
theorem dL_law__2214 : decode cL_law_ 2214 = .ok (.iconst 1, 1) := by decide +kernel
theorem dL_law__2215 : decode cL_law_ 2215 = .ok (.iadd, 1) := by decide +kernel
theorem dL_law__2216 : decode cL_law_ 2216 = .ok (.iaload, 1) := by decide +kernel
theorem dL_law__2217 : decode cL_law_ 2217 = .ok (.aload_n 0, 1) := by decide +kernel
theorem dL_law__2218 : decode cL_law_ 2218 = .ok (.iload 4, 2) := by decide +kernel
theorem dL_law__2220 : decode cL_law_ 2220 = .ok (.iconst 2, 1) := by decide +kernel
theorem dL_law__2221 : decode cL_law_ 2221 = .ok (.iadd, 1) := by decide +kernel
theorem dL_law__2222 : decode cL_law_ 2222 = .ok (.iaload, 1) := by decide +kernel
theorem dL_law__2223 : decode cL_law_ 2223 = .ok (.aload_n 3, 1) := by decide +kernel
theorem dL_law__2224 : decode cL_law_ 2224 = .ok (.invokestatic 289, 3) := by decide +kernel
theorem dL_law__2227 : decode cL_law_ 2227 = .ok (.istore 5, 2) := by decide +kernel
theorem dL_law__2229 : decode cL_law_ 2229 = .ok (.aload_n 2, 1) := by decide +kernel
theorem dL_law__2230 : decode cL_law_ 2230 = .ok (.aload_n 0, 1) := by decide +kernel
theorem dL_law__2231 : decode cL_law_ 2231 = .ok (.iload 4, 2) := by decide +kernel
theorem dL_law__2233 : decode cL_law_ 2233 = .ok (.iconst 1, 1) := by decide +kernel
theorem dL_law__2234 : decode cL_law_ 2234 = .ok (.iadd, 1) := by decide +kernel
theorem dL_law__2235 : decode cL_law_ 2235 = .ok (.iaload, 1) := by decide +kernel
theorem dL_law__2236 : decode cL_law_ 2236 = .ok (.aload_n 0, 1) := by decide +kernel
theorem dL_law__2237 : decode cL_law_ 2237 = .ok (.iload 4, 2) := by decide +kernel
theorem dL_law__2239 : decode cL_law_ 2239 = .ok (.iconst 2, 1) := by decide +kernel
theorem dL_law__2240 : decode cL_law_ 2240 = .ok (.iadd, 1) := by decide +kernel
theorem dL_law__2241 : decode cL_law_ 2241 = .ok (.iaload, 1) := by decide +kernel
theorem dL_law__2242 : decode cL_law_ 2242 = .ok (.invokevirtual 291, 3) := by decide +kernel
theorem dL_law__2245 : decode cL_law_ 2245 = .ok (.istore 6, 2) := by decide +kernel
theorem dL_law__2247 : decode cL_law_ 2247 = .ok (.aload_n 2, 1) := by decide +kernel
theorem dL_law__2248 : decode cL_law_ 2248 = .ok (.invokevirtual 147, 3) := by decide +kernel
theorem dL_law__2251 : decode cL_law_ 2251 = .ok (.iload 5, 2) := by decide +kernel
theorem dL_law__2253 : decode cL_law_ 2253 = .ok (.if_icmp .eq 5, 3) := by decide +kernel
theorem dL_law__2256 : decode cL_law_ 2256 = .ok (.iconst 0, 1) := by decide +kernel
theorem dL_law__2257 : decode cL_law_ 2257 = .ok (.ireturn, 1) := by decide +kernel
theorem dL_law__2258 : decode cL_law_ 2258 = .ok (.iload 5, 2) := by decide +kernel
theorem dL_law__2260 : decode cL_law_ 2260 = .ok (.ifCond .ne 15, 3) := by decide +kernel
theorem dL_law__2263 : decode cL_law_ 2263 = .ok (.aload_n 3, 1) := by decide +kernel
theorem dL_law__2264 : decode cL_law_ 2264 = .ok (.iconst 0, 1) := by decide +kernel
theorem dL_law__2265 : decode cL_law_ 2265 = .ok (.laload, 1) := by decide +kernel
theorem dL_law__2266 : decode cL_law_ 2266 = .ok (.iload 6, 2) := by decide +kernel
theorem dL_law__2268 : decode cL_law_ 2268 = .ok (.i2l, 1) := by decide +kernel
theorem dL_law__2269 : decode cL_law_ 2269 = .ok (.lcmp, 1) := by decide +kernel
theorem dL_law__2270 : decode cL_law_ 2270 = .ok (.ifCond .eq 5, 3) := by decide +kernel
theorem dL_law__2273 : decode cL_law_ 2273 = .ok (.iconst 0, 1) := by decide +kernel
theorem dL_law__2274 : decode cL_law_ 2274 = .ok (.ireturn, 1) := by decide +kernel
theorem dL_law__2275 : decode cL_law_ 2275 = .ok (.goto 410, 3) := by decide +kernel
theorem dL_law__2278 : decode cL_law_ 2278 = .ok (.aload_n 1, 1) := by decide +kernel
theorem dL_law__2279 : decode cL_law_ 2279 = .ok (.aload_n 0, 1) := by decide +kernel
theorem dL_law__2280 : decode cL_law_ 2280 = .ok (.iload 4, 2) := by decide +kernel
theorem dL_law__2282 : decode cL_law_ 2282 = .ok (.iconst 1, 1) := by decide +kernel
theorem dL_law__2283 : decode cL_law_ 2283 = .ok (.iadd, 1) := by decide +kernel
theorem dL_law__2284 : decode cL_law_ 2284 = .ok (.iaload, 1) := by decide +kernel
theorem dL_law__2285 : decode cL_law_ 2285 = .ok (.aload_n 0, 1) := by decide +kernel
theorem dL_law__2286 : decode cL_law_ 2286 = .ok (.iload 4, 2) := by decide +kernel
theorem dL_law__2288 : decode cL_law_ 2288 = .ok (.iconst 2, 1) := by decide +kernel
theorem dL_law__2289 : decode cL_law_ 2289 = .ok (.iadd, 1) := by decide +kernel
theorem dL_law__2290 : decode cL_law_ 2290 = .ok (.iaload, 1) := by decide +kernel
theorem dL_law__2291 : decode cL_law_ 2291 = .ok (.ifCond .eq 7, 3) := by decide +kernel
theorem dL_law__2294 : decode cL_law_ 2294 = .ok (.iconst 1, 1) := by decide +kernel
theorem dL_law__2295 : decode cL_law_ 2295 = .ok (.goto 4, 3) := by decide +kernel
theorem dL_law__2298 : decode cL_law_ 2298 = .ok (.iconst 0, 1) := by decide +kernel
theorem dL_law__2299 : decode cL_law_ 2299 = .ok (.aload_n 3, 1) := by decide +kernel
theorem dL_law__2300 : decode cL_law_ 2300 = .ok (.invokestatic 292, 3) := by decide +kernel
theorem dL_law__2303 : decode cL_law_ 2303 = .ok (.istore 5, 2) := by decide +kernel
theorem dL_law__2305 : decode cL_law_ 2305 = .ok (.aload_n 2, 1) := by decide +kernel
theorem dL_law__2306 : decode cL_law_ 2306 = .ok (.aload_n 0, 1) := by decide +kernel
theorem dL_law__2307 : decode cL_law_ 2307 = .ok (.iload 4, 2) := by decide +kernel
theorem dL_law__2309 : decode cL_law_ 2309 = .ok (.iconst 1, 1) := by decide +kernel
theorem dL_law__2310 : decode cL_law_ 2310 = .ok (.iadd, 1) := by decide +kernel
theorem dL_law__2311 : decode cL_law_ 2311 = .ok (.iaload, 1) := by decide +kernel
theorem dL_law__2312 : decode cL_law_ 2312 = .ok (.aload_n 0, 1) := by decide +kernel
theorem dL_law__2313 : decode cL_law_ 2313 = .ok (.iload 4, 2) := by decide +kernel
theorem dL_law__2315 : decode cL_law_ 2315 = .ok (.iconst 2, 1) := by decide +kernel
theorem dL_law__2316 : decode cL_law_ 2316 = .ok (.iadd, 1) := by decide +kernel
theorem dL_law__2317 : decode cL_law_ 2317 = .ok (.iaload, 1) := by decide +kernel
theorem dL_law__2318 : decode cL_law_ 2318 = .ok (.ifCond .eq 7, 3) := by decide +kernel
theorem dL_law__2321 : decode cL_law_ 2321 = .ok (.iconst 1, 1) := by decide +kernel
theorem dL_law__2322 : decode cL_law_ 2322 = .ok (.goto 4, 3) := by decide +kernel
theorem dL_law__2325 : decode cL_law_ 2325 = .ok (.iconst 0, 1) := by decide +kernel
theorem dL_law__2326 : decode cL_law_ 2326 = .ok (.invokevirtual 295, 3) := by decide +kernel
theorem dL_law__2329 : decode cL_law_ 2329 = .ok (.istore 6, 2) := by decide +kernel
theorem dL_law__2331 : decode cL_law_ 2331 = .ok (.aload_n 2, 1) := by decide +kernel
theorem dL_law__2332 : decode cL_law_ 2332 = .ok (.invokevirtual 147, 3) := by decide +kernel
theorem dL_law__2335 : decode cL_law_ 2335 = .ok (.iload 5, 2) := by decide +kernel
theorem dL_law__2337 : decode cL_law_ 2337 = .ok (.if_icmp .eq 5, 3) := by decide +kernel
theorem dL_law__2340 : decode cL_law_ 2340 = .ok (.iconst 0, 1) := by decide +kernel
theorem dL_law__2341 : decode cL_law_ 2341 = .ok (.ireturn, 1) := by decide +kernel
theorem dL_law__2342 : decode cL_law_ 2342 = .ok (.iload 5, 2) := by decide +kernel
theorem dL_law__2344 : decode cL_law_ 2344 = .ok (.ifCond .ne 15, 3) := by decide +kernel
theorem dL_law__2347 : decode cL_law_ 2347 = .ok (.aload_n 3, 1) := by decide +kernel
theorem dL_law__2348 : decode cL_law_ 2348 = .ok (.iconst 0, 1) := by decide +kernel
theorem dL_law__2349 : decode cL_law_ 2349 = .ok (.laload, 1) := by decide +kernel
theorem dL_law__2350 : decode cL_law_ 2350 = .ok (.iload 6, 2) := by decide +kernel
theorem dL_law__2352 : decode cL_law_ 2352 = .ok (.i2l, 1) := by decide +kernel
theorem dL_law__2353 : decode cL_law_ 2353 = .ok (.lcmp, 1) := by decide +kernel
theorem dL_law__2354 : decode cL_law_ 2354 = .ok (.ifCond .eq 5, 3) := by decide +kernel
theorem dL_law__2357 : decode cL_law_ 2357 = .ok (.iconst 0, 1) := by decide +kernel
theorem dL_law__2358 : decode cL_law_ 2358 = .ok (.ireturn, 1) := by decide +kernel
theorem dL_law__2359 : decode cL_law_ 2359 = .ok (.goto 326, 3) := by decide +kernel
theorem dL_law__2362 : decode cL_law_ 2362 = .ok (.aload_n 1, 1) := by decide +kernel
theorem dL_law__2363 : decode cL_law_ 2363 = .ok (.aload_n 0, 1) := by decide +kernel
theorem dL_law__2364 : decode cL_law_ 2364 = .ok (.iload 4, 2) := by decide +kernel
theorem dL_law__2366 : decode cL_law_ 2366 = .ok (.iconst 1, 1) := by decide +kernel
theorem dL_law__2367 : decode cL_law_ 2367 = .ok (.iadd, 1) := by decide +kernel
theorem dL_law__2368 : decode cL_law_ 2368 = .ok (.iaload, 1) := by decide +kernel
theorem dL_law__2369 : decode cL_law_ 2369 = .ok (.aload_n 0, 1) := by decide +kernel
theorem dL_law__2370 : decode cL_law_ 2370 = .ok (.iload 4, 2) := by decide +kernel
theorem dL_law__2372 : decode cL_law_ 2372 = .ok (.iconst 2, 1) := by decide +kernel
theorem dL_law__2373 : decode cL_law_ 2373 = .ok (.iadd, 1) := by decide +kernel
theorem dL_law__2374 : decode cL_law_ 2374 = .ok (.iaload, 1) := by decide +kernel
theorem dL_law__2375 : decode cL_law_ 2375 = .ok (.ifCond .eq 7, 3) := by decide +kernel
theorem dL_law__2378 : decode cL_law_ 2378 = .ok (.iconst 1, 1) := by decide +kernel
theorem dL_law__2379 : decode cL_law_ 2379 = .ok (.goto 4, 3) := by decide +kernel
theorem dL_law__2382 : decode cL_law_ 2382 = .ok (.iconst 0, 1) := by decide +kernel
theorem dL_law__2383 : decode cL_law_ 2383 = .ok (.aload_n 3, 1) := by decide +kernel
theorem dL_law__2384 : decode cL_law_ 2384 = .ok (.invokestatic 296, 3) := by decide +kernel
theorem dL_law__2387 : decode cL_law_ 2387 = .ok (.istore 5, 2) := by decide +kernel
theorem dL_law__2389 : decode cL_law_ 2389 = .ok (.aload_n 2, 1) := by decide +kernel
theorem dL_law__2390 : decode cL_law_ 2390 = .ok (.aload_n 0, 1) := by decide +kernel
theorem dL_law__2391 : decode cL_law_ 2391 = .ok (.iload 4, 2) := by decide +kernel
theorem dL_law__2393 : decode cL_law_ 2393 = .ok (.iconst 1, 1) := by decide +kernel
theorem dL_law__2394 : decode cL_law_ 2394 = .ok (.iadd, 1) := by decide +kernel
theorem dL_law__2395 : decode cL_law_ 2395 = .ok (.iaload, 1) := by decide +kernel
theorem dL_law__2396 : decode cL_law_ 2396 = .ok (.aload_n 0, 1) := by decide +kernel
theorem dL_law__2397 : decode cL_law_ 2397 = .ok (.iload 4, 2) := by decide +kernel
theorem dL_law__2399 : decode cL_law_ 2399 = .ok (.iconst 2, 1) := by decide +kernel
theorem dL_law__2400 : decode cL_law_ 2400 = .ok (.iadd, 1) := by decide +kernel
theorem dL_law__2401 : decode cL_law_ 2401 = .ok (.iaload, 1) := by decide +kernel
theorem dL_law__2402 : decode cL_law_ 2402 = .ok (.ifCond .eq 7, 3) := by decide +kernel
theorem dL_law__2405 : decode cL_law_ 2405 = .ok (.iconst 1, 1) := by decide +kernel
theorem dL_law__2406 : decode cL_law_ 2406 = .ok (.goto 4, 3) := by decide +kernel
theorem dL_law__2409 : decode cL_law_ 2409 = .ok (.iconst 0, 1) := by decide +kernel
theorem dL_law__2410 : decode cL_law_ 2410 = .ok (.invokevirtual 298, 3) := by decide +kernel
theorem dL_law__2413 : decode cL_law_ 2413 = .ok (.istore 6, 2) := by decide +kernel
theorem dL_law__2415 : decode cL_law_ 2415 = .ok (.aload_n 2, 1) := by decide +kernel
theorem dL_law__2416 : decode cL_law_ 2416 = .ok (.invokevirtual 147, 3) := by decide +kernel
theorem dL_law__2419 : decode cL_law_ 2419 = .ok (.iload 5, 2) := by decide +kernel
theorem dL_law__2421 : decode cL_law_ 2421 = .ok (.if_icmp .eq 5, 3) := by decide +kernel
theorem dL_law__2424 : decode cL_law_ 2424 = .ok (.iconst 0, 1) := by decide +kernel
theorem dL_law__2425 : decode cL_law_ 2425 = .ok (.ireturn, 1) := by decide +kernel
theorem dL_law__2426 : decode cL_law_ 2426 = .ok (.iload 5, 2) := by decide +kernel
theorem dL_law__2428 : decode cL_law_ 2428 = .ok (.ifCond .ne 15, 3) := by decide +kernel
theorem dL_law__2431 : decode cL_law_ 2431 = .ok (.aload_n 3, 1) := by decide +kernel
theorem dL_law__2432 : decode cL_law_ 2432 = .ok (.iconst 0, 1) := by decide +kernel
theorem dL_law__2433 : decode cL_law_ 2433 = .ok (.laload, 1) := by decide +kernel
theorem dL_law__2434 : decode cL_law_ 2434 = .ok (.iload 6, 2) := by decide +kernel
theorem dL_law__2436 : decode cL_law_ 2436 = .ok (.i2l, 1) := by decide +kernel
theorem dL_law__2437 : decode cL_law_ 2437 = .ok (.lcmp, 1) := by decide +kernel
theorem dL_law__2438 : decode cL_law_ 2438 = .ok (.ifCond .eq 5, 3) := by decide +kernel
theorem dL_law__2441 : decode cL_law_ 2441 = .ok (.iconst 0, 1) := by decide +kernel
theorem dL_law__2442 : decode cL_law_ 2442 = .ok (.ireturn, 1) := by decide +kernel
theorem dL_law__2443 : decode cL_law_ 2443 = .ok (.goto 242, 3) := by decide +kernel
theorem dL_law__2446 : decode cL_law_ 2446 = .ok (.aload_n 1, 1) := by decide +kernel
theorem dL_law__2447 : decode cL_law_ 2447 = .ok (.aload_n 0, 1) := by decide +kernel
theorem dL_law__2448 : decode cL_law_ 2448 = .ok (.iload 4, 2) := by decide +kernel
theorem dL_law__2450 : decode cL_law_ 2450 = .ok (.iconst 1, 1) := by decide +kernel
theorem dL_law__2451 : decode cL_law_ 2451 = .ok (.iadd, 1) := by decide +kernel
theorem dL_law__2452 : decode cL_law_ 2452 = .ok (.iaload, 1) := by decide +kernel
theorem dL_law__2453 : decode cL_law_ 2453 = .ok (.aload_n 0, 1) := by decide +kernel
theorem dL_law__2454 : decode cL_law_ 2454 = .ok (.iload 4, 2) := by decide +kernel
theorem dL_law__2456 : decode cL_law_ 2456 = .ok (.iconst 2, 1) := by decide +kernel
theorem dL_law__2457 : decode cL_law_ 2457 = .ok (.iadd, 1) := by decide +kernel
theorem dL_law__2458 : decode cL_law_ 2458 = .ok (.iaload, 1) := by decide +kernel
theorem dL_law__2459 : decode cL_law_ 2459 = .ok (.ifCond .eq 7, 3) := by decide +kernel
theorem dL_law__2462 : decode cL_law_ 2462 = .ok (.iconst 1, 1) := by decide +kernel
theorem dL_law__2463 : decode cL_law_ 2463 = .ok (.goto 4, 3) := by decide +kernel
theorem dL_law__2466 : decode cL_law_ 2466 = .ok (.iconst 0, 1) := by decide +kernel
theorem dL_law__2467 : decode cL_law_ 2467 = .ok (.aload_n 3, 1) := by decide +kernel
theorem dL_law__2468 : decode cL_law_ 2468 = .ok (.invokestatic 299, 3) := by decide +kernel
theorem dL_law__2471 : decode cL_law_ 2471 = .ok (.istore 5, 2) := by decide +kernel
theorem dL_law__2473 : decode cL_law_ 2473 = .ok (.aload_n 2, 1) := by decide +kernel
theorem dL_law__2474 : decode cL_law_ 2474 = .ok (.aload_n 0, 1) := by decide +kernel
theorem dL_law__2475 : decode cL_law_ 2475 = .ok (.iload 4, 2) := by decide +kernel
theorem dL_law__2477 : decode cL_law_ 2477 = .ok (.iconst 1, 1) := by decide +kernel
theorem dL_law__2478 : decode cL_law_ 2478 = .ok (.iadd, 1) := by decide +kernel
theorem dL_law__2479 : decode cL_law_ 2479 = .ok (.iaload, 1) := by decide +kernel
theorem dL_law__2480 : decode cL_law_ 2480 = .ok (.aload_n 0, 1) := by decide +kernel
theorem dL_law__2481 : decode cL_law_ 2481 = .ok (.iload 4, 2) := by decide +kernel
theorem dL_law__2483 : decode cL_law_ 2483 = .ok (.iconst 2, 1) := by decide +kernel
theorem dL_law__2484 : decode cL_law_ 2484 = .ok (.iadd, 1) := by decide +kernel
theorem dL_law__2485 : decode cL_law_ 2485 = .ok (.iaload, 1) := by decide +kernel
theorem dL_law__2486 : decode cL_law_ 2486 = .ok (.ifCond .eq 7, 3) := by decide +kernel
theorem dL_law__2489 : decode cL_law_ 2489 = .ok (.iconst 1, 1) := by decide +kernel
theorem dL_law__2490 : decode cL_law_ 2490 = .ok (.goto 4, 3) := by decide +kernel
theorem dL_law__2493 : decode cL_law_ 2493 = .ok (.iconst 0, 1) := by decide +kernel
theorem dL_law__2494 : decode cL_law_ 2494 = .ok (.invokevirtual 301, 3) := by decide +kernel
theorem dL_law__2497 : decode cL_law_ 2497 = .ok (.istore 6, 2) := by decide +kernel
theorem dL_law__2499 : decode cL_law_ 2499 = .ok (.aload_n 2, 1) := by decide +kernel
theorem dL_law__2500 : decode cL_law_ 2500 = .ok (.invokevirtual 147, 3) := by decide +kernel
theorem dL_law__2503 : decode cL_law_ 2503 = .ok (.iload 5, 2) := by decide +kernel
theorem dL_law__2505 : decode cL_law_ 2505 = .ok (.if_icmp .eq 5, 3) := by decide +kernel
theorem dL_law__2508 : decode cL_law_ 2508 = .ok (.iconst 0, 1) := by decide +kernel
theorem dL_law__2509 : decode cL_law_ 2509 = .ok (.ireturn, 1) := by decide +kernel
theorem dL_law__2510 : decode cL_law_ 2510 = .ok (.iload 5, 2) := by decide +kernel
theorem dL_law__2512 : decode cL_law_ 2512 = .ok (.ifCond .ne 15, 3) := by decide +kernel
theorem dL_law__2515 : decode cL_law_ 2515 = .ok (.aload_n 3, 1) := by decide +kernel
theorem dL_law__2516 : decode cL_law_ 2516 = .ok (.iconst 0, 1) := by decide +kernel
theorem dL_law__2517 : decode cL_law_ 2517 = .ok (.laload, 1) := by decide +kernel
theorem dL_law__2518 : decode cL_law_ 2518 = .ok (.iload 6, 2) := by decide +kernel
theorem dL_law__2520 : decode cL_law_ 2520 = .ok (.i2l, 1) := by decide +kernel
theorem dL_law__2521 : decode cL_law_ 2521 = .ok (.lcmp, 1) := by decide +kernel
theorem dL_law__2522 : decode cL_law_ 2522 = .ok (.ifCond .eq 5, 3) := by decide +kernel
theorem dL_law__2525 : decode cL_law_ 2525 = .ok (.iconst 0, 1) := by decide +kernel
theorem dL_law__2526 : decode cL_law_ 2526 = .ok (.ireturn, 1) := by decide +kernel
theorem dL_law__2527 : decode cL_law_ 2527 = .ok (.goto 158, 3) := by decide +kernel
theorem dL_law__2530 : decode cL_law_ 2530 = .ok (.aload_n 1, 1) := by decide +kernel
theorem dL_law__2531 : decode cL_law_ 2531 = .ok (.aload_n 0, 1) := by decide +kernel
theorem dL_law__2532 : decode cL_law_ 2532 = .ok (.iload 4, 2) := by decide +kernel
theorem dL_law__2534 : decode cL_law_ 2534 = .ok (.iconst 1, 1) := by decide +kernel
theorem dL_law__2535 : decode cL_law_ 2535 = .ok (.iadd, 1) := by decide +kernel
theorem dL_law__2536 : decode cL_law_ 2536 = .ok (.iaload, 1) := by decide +kernel
theorem dL_law__2537 : decode cL_law_ 2537 = .ok (.aload_n 0, 1) := by decide +kernel
theorem dL_law__2538 : decode cL_law_ 2538 = .ok (.iload 4, 2) := by decide +kernel
theorem dL_law__2540 : decode cL_law_ 2540 = .ok (.iconst 2, 1) := by decide +kernel
theorem dL_law__2541 : decode cL_law_ 2541 = .ok (.iadd, 1) := by decide +kernel
theorem dL_law__2542 : decode cL_law_ 2542 = .ok (.iaload, 1) := by decide +kernel
theorem dL_law__2543 : decode cL_law_ 2543 = .ok (.aload_n 3, 1) := by decide +kernel
theorem dL_law__2544 : decode cL_law_ 2544 = .ok (.invokestatic 302, 3) := by decide +kernel
theorem dL_law__2547 : decode cL_law_ 2547 = .ok (.istore 5, 2) := by decide +kernel
theorem dL_law__2549 : decode cL_law_ 2549 = .ok (.aload_n 2, 1) := by decide +kernel
theorem dL_law__2550 : decode cL_law_ 2550 = .ok (.aload_n 0, 1) := by decide +kernel
theorem dL_law__2551 : decode cL_law_ 2551 = .ok (.iload 4, 2) := by decide +kernel
theorem dL_law__2553 : decode cL_law_ 2553 = .ok (.iconst 1, 1) := by decide +kernel
theorem dL_law__2554 : decode cL_law_ 2554 = .ok (.iadd, 1) := by decide +kernel
theorem dL_law__2555 : decode cL_law_ 2555 = .ok (.iaload, 1) := by decide +kernel
theorem dL_law__2556 : decode cL_law_ 2556 = .ok (.aload_n 0, 1) := by decide +kernel
theorem dL_law__2557 : decode cL_law_ 2557 = .ok (.iload 4, 2) := by decide +kernel
theorem dL_law__2559 : decode cL_law_ 2559 = .ok (.iconst 2, 1) := by decide +kernel
theorem dL_law__2560 : decode cL_law_ 2560 = .ok (.iadd, 1) := by decide +kernel
theorem dL_law__2561 : decode cL_law_ 2561 = .ok (.iaload, 1) := by decide +kernel
theorem dL_law__2562 : decode cL_law_ 2562 = .ok (.invokevirtual 304, 3) := by decide +kernel
theorem dL_law__2565 : decode cL_law_ 2565 = .ok (.istore 6, 2) := by decide +kernel
theorem dL_law__2567 : decode cL_law_ 2567 = .ok (.aload_n 2, 1) := by decide +kernel
theorem dL_law__2568 : decode cL_law_ 2568 = .ok (.invokevirtual 147, 3) := by decide +kernel
theorem dL_law__2571 : decode cL_law_ 2571 = .ok (.iload 5, 2) := by decide +kernel
theorem dL_law__2573 : decode cL_law_ 2573 = .ok (.if_icmp .eq 5, 3) := by decide +kernel
theorem dL_law__2576 : decode cL_law_ 2576 = .ok (.iconst 0, 1) := by decide +kernel
theorem dL_law__2577 : decode cL_law_ 2577 = .ok (.ireturn, 1) := by decide +kernel
theorem dL_law__2578 : decode cL_law_ 2578 = .ok (.iload 5, 2) := by decide +kernel
theorem dL_law__2580 : decode cL_law_ 2580 = .ok (.ifCond .ne 15, 3) := by decide +kernel
theorem dL_law__2583 : decode cL_law_ 2583 = .ok (.aload_n 3, 1) := by decide +kernel
theorem dL_law__2584 : decode cL_law_ 2584 = .ok (.iconst 0, 1) := by decide +kernel
theorem dL_law__2585 : decode cL_law_ 2585 = .ok (.laload, 1) := by decide +kernel
theorem dL_law__2586 : decode cL_law_ 2586 = .ok (.iload 6, 2) := by decide +kernel
theorem dL_law__2588 : decode cL_law_ 2588 = .ok (.i2l, 1) := by decide +kernel
theorem dL_law__2589 : decode cL_law_ 2589 = .ok (.lcmp, 1) := by decide +kernel
theorem dL_law__2590 : decode cL_law_ 2590 = .ok (.ifCond .eq 5, 3) := by decide +kernel
theorem dL_law__2593 : decode cL_law_ 2593 = .ok (.iconst 0, 1) := by decide +kernel
theorem dL_law__2594 : decode cL_law_ 2594 = .ok (.ireturn, 1) := by decide +kernel
theorem dL_law__2595 : decode cL_law_ 2595 = .ok (.goto 90, 3) := by decide +kernel
theorem dL_law__2598 : decode cL_law_ 2598 = .ok (.aload_n 1, 1) := by decide +kernel
theorem dL_law__2599 : decode cL_law_ 2599 = .ok (.aload_n 0, 1) := by decide +kernel
theorem dL_law__2600 : decode cL_law_ 2600 = .ok (.iload 4, 2) := by decide +kernel
theorem dL_law__2602 : decode cL_law_ 2602 = .ok (.iconst 1, 1) := by decide +kernel
theorem dL_law__2603 : decode cL_law_ 2603 = .ok (.iadd, 1) := by decide +kernel
theorem dL_law__2604 : decode cL_law_ 2604 = .ok (.iaload, 1) := by decide +kernel
theorem dL_law__2605 : decode cL_law_ 2605 = .ok (.invokevirtual 305, 3) := by decide +kernel
theorem dL_law__2608 : decode cL_law_ 2608 = .ok (.aload_n 2, 1) := by decide +kernel
theorem dL_law__2609 : decode cL_law_ 2609 = .ok (.aload_n 0, 1) := by decide +kernel
theorem dL_law__2610 : decode cL_law_ 2610 = .ok (.iload 4, 2) := by decide +kernel
theorem dL_law__2612 : decode cL_law_ 2612 = .ok (.iconst 1, 1) := by decide +kernel
theorem dL_law__2613 : decode cL_law_ 2613 = .ok (.iadd, 1) := by decide +kernel
theorem dL_law__2614 : decode cL_law_ 2614 = .ok (.iaload, 1) := by decide +kernel
theorem dL_law__2615 : decode cL_law_ 2615 = .ok (.invokevirtual 308, 3) := by decide +kernel
theorem dL_law__2618 : decode cL_law_ 2618 = .ok (.if_icmp .eq 67, 3) := by decide +kernel
theorem dL_law__2621 : decode cL_law_ 2621 = .ok (.iconst 0, 1) := by decide +kernel
theorem dL_law__2622 : decode cL_law_ 2622 = .ok (.ireturn, 1) := by decide +kernel
theorem dL_law__2623 : decode cL_law_ 2623 = .ok (.aload_n 1, 1) := by decide +kernel
