theorem dX7_init_35 : decode cX7_init 35 = .ok (.iload_n 1, 1) := by decide +kernel
theorem dX7_init_36 : decode cX7_init 36 = .ok (.new 9, 3) := by decide +kernel
theorem dX7_init_39 : decode cX7_init 39 = .ok (.dup, 1) := by decide +kernel
theorem dX7_init_40 : decode cX7_init 40 = .ok (.invokespecial 24, 3) := by decide +kernel
theorem dX7_init_43 : decode cX7_init 43 = .ok (.aastore, 1) := by decide +kernel
theorem dX7_init_44 : decode cX7_init 44 = .ok (.iinc 1 1, 3) := by decide +kernel
theorem dX7_init_47 : decode cX7_init 47 = .ok (.goto (-22), 3) := by decide +kernel
theorem dX7_init_50 : decode cX7_init 50 = .ok (.return_, 1) := by decide +kernel
theorem dX7_remember_0 : decode cX7_remember 0 = .ok (.aload_n 0, 1) := by decide +kernel
theorem dX7_remember_1 : decode cX7_remember 1 = .ok (.getfield 11, 3) := by decide +kernel
theorem dX7_remember_4 : decode cX7_remember 4 = .ok (.aload_n 0, 1) := by decide +kernel
theorem dX7_remember_5 : decode cX7_remember 5 = .ok (.getfield 17, 3) := by decide +kernel
theorem dX7_remember_8 : decode cX7_remember 8 = .ok (.aload_n 0, 1) := by decide +kernel
theorem dX7_remember_9 : decode cX7_remember 9 = .ok (.getfield 21, 3) := by decide +kernel
theorem dX7_remember_12 : decode cX7_remember 12 = .ok (.iadd, 1) := by decide +kernel
theorem dX7_remember_13 : decode cX7_remember 13 = .ok (.bipush 12, 2) := by decide +kernel
theorem dX7_remember_15 : decode cX7_remember 15 = .ok (.irem, 1) := by decide +kernel
theorem dX7_remember_16 : decode cX7_remember 16 = .ok (.aaload, 1) := by decide +kernel
theorem dX7_remember_17 : decode cX7_remember 17 = .ok (.aload_n 1, 1) := by decide +kernel
theorem dX7_remember_18 : decode cX7_remember 18 = .ok (.invokevirtual 25, 3) := by decide +kernel
theorem dX7_remember_21 : decode cX7_remember 21 = .ok (.aload_n 0, 1) := by decide +kernel
theorem dX7_remember_22 : decode cX7_remember 22 = .ok (.getfield 21, 3) := by decide +kernel
theorem dX7_remember_25 : decode cX7_remember 25 = .ok (.bipush 12, 2) := by decide +kernel
theorem dX7_remember_27 : decode cX7_remember 27 = .ok (.if_icmp .ge 16, 3) := by decide +kernel
theorem dX7_remember_30 : decode cX7_remember 30 = .ok (.aload_n 0, 1) := by decide +kernel
theorem dX7_remember_31 : decode cX7_remember 31 = .ok (.dup, 1) := by decide +kernel
theorem dX7_remember_32 : decode cX7_remember 32 = .ok (.getfield 21, 3) := by decide +kernel
theorem dX7_remember_35 : decode cX7_remember 35 = .ok (.iconst 1, 1) := by decide +kernel
theorem dX7_remember_36 : decode cX7_remember 36 = .ok (.iadd, 1) := by decide +kernel
theorem dX7_remember_37 : decode cX7_remember 37 = .ok (.putfield 21, 3) := by decide +kernel
theorem dX7_remember_40 : decode cX7_remember 40 = .ok (.goto 16, 3) := by decide +kernel
theorem dX7_remember_43 : decode cX7_remember 43 = .ok (.aload_n 0, 1) := by decide +kernel
theorem dX7_remember_44 : decode cX7_remember 44 = .ok (.aload_n 0, 1) := by decide +kernel
theorem dX7_remember_45 : decode cX7_remember 45 = .ok (.getfield 17, 3) := by decide +kernel
theorem dX7_remember_48 : decode cX7_remember 48 = .ok (.iconst 1, 1) := by decide +kernel
theorem dX7_remember_49 : decode cX7_remember 49 = .ok (.iadd, 1) := by decide +kernel
theorem dX7_remember_50 : decode cX7_remember 50 = .ok (.bipush 12, 2) := by decide +kernel
theorem dX7_remember_52 : decode cX7_remember 52 = .ok (.irem, 1) := by decide +kernel
theorem dX7_remember_53 : decode cX7_remember 53 = .ok (.putfield 17, 3) := by decide +kernel
theorem dX7_remember_56 : decode cX7_remember 56 = .ok (.return_, 1) := by decide +kernel
theorem dX7_bringBack_0 : decode cX7_bringBack 0 = .ok (.aload_n 0, 1) := by decide +kernel
theorem dX7_bringBack_1 : decode cX7_bringBack 1 = .ok (.getfield 21, 3) := by decide +kernel
theorem dX7_bringBack_4 : decode cX7_bringBack 4 = .ok (.ifCond .ne 5, 3) := by decide +kernel
theorem dX7_bringBack_7 : decode cX7_bringBack 7 = .ok (.iconst 0, 1) := by decide +kernel
theorem dX7_bringBack_8 : decode cX7_bringBack 8 = .ok (.ireturn, 1) := by decide +kernel
theorem dX7_bringBack_9 : decode cX7_bringBack 9 = .ok (.aload_n 0, 1) := by decide +kernel
theorem dX7_bringBack_10 : decode cX7_bringBack 10 = .ok (.dup, 1) := by decide +kernel
theorem dX7_bringBack_11 : decode cX7_bringBack 11 = .ok (.getfield 21, 3) := by decide +kernel
theorem dX7_bringBack_14 : decode cX7_bringBack 14 = .ok (.iconst 1, 1) := by decide +kernel
theorem dX7_bringBack_15 : decode cX7_bringBack 15 = .ok (.isub, 1) := by decide +kernel
theorem dX7_bringBack_16 : decode cX7_bringBack 16 = .ok (.putfield 21, 3) := by decide +kernel
theorem dX7_bringBack_19 : decode cX7_bringBack 19 = .ok (.aload_n 1, 1) := by decide +kernel
theorem dX7_bringBack_20 : decode cX7_bringBack 20 = .ok (.aload_n 0, 1) := by decide +kernel
theorem dX7_bringBack_21 : decode cX7_bringBack 21 = .ok (.getfield 11, 3) := by decide +kernel
theorem dX7_bringBack_24 : decode cX7_bringBack 24 = .ok (.aload_n 0, 1) := by decide +kernel
theorem dX7_bringBack_25 : decode cX7_bringBack 25 = .ok (.getfield 17, 3) := by decide +kernel
theorem dX7_bringBack_28 : decode cX7_bringBack 28 = .ok (.aload_n 0, 1) := by decide +kernel
theorem dX7_bringBack_29 : decode cX7_bringBack 29 = .ok (.getfield 21, 3) := by decide +kernel
theorem dX7_bringBack_32 : decode cX7_bringBack 32 = .ok (.iadd, 1) := by decide +kernel
theorem dX7_bringBack_33 : decode cX7_bringBack 33 = .ok (.bipush 12, 2) := by decide +kernel
theorem dX7_bringBack_35 : decode cX7_bringBack 35 = .ok (.irem, 1) := by decide +kernel
theorem dX7_bringBack_36 : decode cX7_bringBack 36 = .ok (.aaload, 1) := by decide +kernel
theorem dX7_bringBack_37 : decode cX7_bringBack 37 = .ok (.invokevirtual 25, 3) := by decide +kernel
theorem dX7_bringBack_40 : decode cX7_bringBack 40 = .ok (.iconst 1, 1) := by decide +kernel
theorem dX7_bringBack_41 : decode cX7_bringBack 41 = .ok (.ireturn, 1) := by decide +kernel
theorem dX7_forget_0 : decode cX7_forget 0 = .ok (.aload_n 0, 1) := by decide +kernel
theorem dX7_forget_1 : decode cX7_forget 1 = .ok (.iconst 0, 1) := by decide +kernel
theorem dX7_forget_2 : decode cX7_forget 2 = .ok (.putfield 21, 3) := by decide +kernel
theorem dX7_forget_5 : decode cX7_forget 5 = .ok (.return_, 1) := by decide +kernel
theorem dX8_init_0 : decode cX8_init 0 = .ok (.aload_n 0, 1) := by decide +kernel
theorem dX8_init_1 : decode cX8_init 1 = .ok (.invokespecial 3, 3) := by decide +kernel
theorem dX8_init_4 : decode cX8_init 4 = .ok (.aload_n 0, 1) := by decide +kernel
theorem dX8_init_5 : decode cX8_init 5 = .ok (.iconst 4, 1) := by decide +kernel
theorem dX8_init_6 : decode cX8_init 6 = .ok (.bipush 9, 2) := by decide +kernel
theorem dX8_init_8 : decode cX8_init 8 = .ok (.multianewarray 9 2, 4) := by decide +kernel
theorem dX8_init_12 : decode cX8_init 12 = .ok (.putfield 11, 3) := by decide +kernel
theorem dX8_init_15 : decode cX8_init 15 = .ok (.aload_n 0, 1) := by decide +kernel
theorem dX8_init_16 : decode cX8_init 16 = .ok (.bipush 9, 2) := by decide +kernel
theorem dX8_init_18 : decode cX8_init 18 = .ok (.bipush 8, 2) := by decide +kernel
theorem dX8_init_20 : decode cX8_init 20 = .ok (.multianewarray 9 2, 4) := by decide +kernel
theorem dX8_init_24 : decode cX8_init 24 = .ok (.putfield 16, 3) := by decide +kernel
theorem dX8_init_27 : decode cX8_init 27 = .ok (.aload_n 0, 1) := by decide +kernel
theorem dX8_init_28 : decode cX8_init 28 = .ok (.iconst 5, 1) := by decide +kernel
theorem dX8_init_29 : decode cX8_init 29 = .ok (.bipush 8, 2) := by decide +kernel
theorem dX8_init_31 : decode cX8_init 31 = .ok (.multianewarray 9 2, 4) := by decide +kernel
theorem dX8_init_35 : decode cX8_init 35 = .ok (.putfield 19, 3) := by decide +kernel
theorem dX8_init_38 : decode cX8_init 38 = .ok (.aload_n 0, 1) := by decide +kernel
theorem dX8_init_39 : decode cX8_init 39 = .ok (.iconst 0, 1) := by decide +kernel
theorem dX8_init_40 : decode cX8_init 40 = .ok (.putfield 22, 3) := by decide +kernel
theorem dX8_init_43 : decode cX8_init 43 = .ok (.aload_n 0, 1) := by decide +kernel
theorem dX8_init_44 : decode cX8_init 44 = .ok (.iconst 0, 1) := by decide +kernel
theorem dX8_init_45 : decode cX8_init 45 = .ok (.putfield 26, 3) := by decide +kernel
theorem dX8_init_48 : decode cX8_init 48 = .ok (.aload_n 0, 1) := by decide +kernel
theorem dX8_init_49 : decode cX8_init 49 = .ok (.iconst 0, 1) := by decide +kernel
theorem dX8_init_50 : decode cX8_init 50 = .ok (.putfield 29, 3) := by decide +kernel
theorem dX8_init_53 : decode cX8_init 53 = .ok (.aload_n 0, 1) := by decide +kernel
theorem dX8_init_54 : decode cX8_init 54 = .ok (.iconst 0, 1) := by decide +kernel
theorem dX8_init_55 : decode cX8_init 55 = .ok (.putfield 32, 3) := by decide +kernel
theorem dX8_init_58 : decode cX8_init 58 = .ok (.aload_n 0, 1) := by decide +kernel
theorem dX8_init_59 : decode cX8_init 59 = .ok (.iconst 1, 1) := by decide +kernel
theorem dX8_init_60 : decode cX8_init 60 = .ok (.putfield 35, 3) := by decide +kernel
theorem dX8_init_63 : decode cX8_init 63 = .ok (.iconst 0, 1) := by decide +kernel
theorem dX8_init_64 : decode cX8_init 64 = .ok (.istore_n 1, 1) := by decide +kernel
theorem dX8_init_65 : decode cX8_init 65 = .ok (.iload_n 1, 1) := by decide +kernel
theorem dX8_init_66 : decode cX8_init 66 = .ok (.bipush 8, 2) := by decide +kernel
theorem dX8_init_68 : decode cX8_init 68 = .ok (.if_icmp .gt 18, 3) := by decide +kernel
theorem dX8_init_71 : decode cX8_init 71 = .ok (.aload_n 0, 1) := by decide +kernel
theorem dX8_init_72 : decode cX8_init 72 = .ok (.getfield 11, 3) := by decide +kernel
theorem dX8_init_75 : decode cX8_init 75 = .ok (.iconst 0, 1) := by decide +kernel
theorem dX8_init_76 : decode cX8_init 76 = .ok (.aaload, 1) := by decide +kernel
theorem dX8_init_77 : decode cX8_init 77 = .ok (.iload_n 1, 1) := by decide +kernel
theorem dX8_init_78 : decode cX8_init 78 = .ok (.iconst 1, 1) := by decide +kernel
theorem dX8_init_79 : decode cX8_init 79 = .ok (.iastore, 1) := by decide +kernel
theorem dX8_init_80 : decode cX8_init 80 = .ok (.iinc 1 1, 3) := by decide +kernel
theorem dX8_init_83 : decode cX8_init 83 = .ok (.goto (-18), 3) := by decide +kernel
theorem dX8_init_86 : decode cX8_init 86 = .ok (.return_, 1) := by decide +kernel
theorem dX8_copyFrom_0 : decode cX8_copyFrom 0 = .ok (.aload_n 1, 1) := by decide +kernel
theorem dX8_copyFrom_1 : decode cX8_copyFrom 1 = .ok (.getfield 11, 3) := by decide +kernel
theorem dX8_copyFrom_4 : decode cX8_copyFrom 4 = .ok (.aload_n 0, 1) := by decide +kernel
theorem dX8_copyFrom_5 : decode cX8_copyFrom 5 = .ok (.getfield 11, 3) := by decide +kernel
theorem dX8_copyFrom_8 : decode cX8_copyFrom 8 = .ok (.invokestatic 38, 3) := by decide +kernel
theorem dX8_copyFrom_11 : decode cX8_copyFrom 11 = .ok (.aload_n 1, 1) := by decide +kernel
theorem dX8_copyFrom_12 : decode cX8_copyFrom 12 = .ok (.getfield 16, 3) := by decide +kernel
theorem dX8_copyFrom_15 : decode cX8_copyFrom 15 = .ok (.aload_n 0, 1) := by decide +kernel
theorem dX8_copyFrom_16 : decode cX8_copyFrom 16 = .ok (.getfield 16, 3) := by decide +kernel
theorem dX8_copyFrom_19 : decode cX8_copyFrom 19 = .ok (.invokestatic 38, 3) := by decide +kernel
theorem dX8_copyFrom_22 : decode cX8_copyFrom 22 = .ok (.aload_n 1, 1) := by decide +kernel
theorem dX8_copyFrom_23 : decode cX8_copyFrom 23 = .ok (.getfield 19, 3) := by decide +kernel
theorem dX8_copyFrom_26 : decode cX8_copyFrom 26 = .ok (.aload_n 0, 1) := by decide +kernel
theorem dX8_copyFrom_27 : decode cX8_copyFrom 27 = .ok (.getfield 19, 3) := by decide +kernel
theorem dX8_copyFrom_30 : decode cX8_copyFrom 30 = .ok (.invokestatic 38, 3) := by decide +kernel
theorem dX8_copyFrom_33 : decode cX8_copyFrom 33 = .ok (.aload_n 0, 1) := by decide +kernel
theorem dX8_copyFrom_34 : decode cX8_copyFrom 34 = .ok (.aload_n 1, 1) := by decide +kernel
theorem dX8_copyFrom_35 : decode cX8_copyFrom 35 = .ok (.getfield 22, 3) := by decide +kernel
theorem dX8_copyFrom_38 : decode cX8_copyFrom 38 = .ok (.putfield 22, 3) := by decide +kernel
theorem dX8_copyFrom_41 : decode cX8_copyFrom 41 = .ok (.aload_n 0, 1) := by decide +kernel
theorem dX8_copyFrom_42 : decode cX8_copyFrom 42 = .ok (.aload_n 1, 1) := by decide +kernel
theorem dX8_copyFrom_43 : decode cX8_copyFrom 43 = .ok (.getfield 26, 3) := by decide +kernel
theorem dX8_copyFrom_46 : decode cX8_copyFrom 46 = .ok (.putfield 26, 3) := by decide +kernel
theorem dX8_copyFrom_49 : decode cX8_copyFrom 49 = .ok (.aload_n 0, 1) := by decide +kernel
theorem dX8_copyFrom_50 : decode cX8_copyFrom 50 = .ok (.aload_n 1, 1) := by decide +kernel
theorem dX8_copyFrom_51 : decode cX8_copyFrom 51 = .ok (.getfield 29, 3) := by decide +kernel
theorem dX8_copyFrom_54 : decode cX8_copyFrom 54 = .ok (.putfield 29, 3) := by decide +kernel
theorem dX8_copyFrom_57 : decode cX8_copyFrom 57 = .ok (.aload_n 0, 1) := by decide +kernel
theorem dX8_copyFrom_58 : decode cX8_copyFrom 58 = .ok (.aload_n 1, 1) := by decide +kernel
theorem dX8_copyFrom_59 : decode cX8_copyFrom 59 = .ok (.getfield 32, 3) := by decide +kernel
theorem dX8_copyFrom_62 : decode cX8_copyFrom 62 = .ok (.putfield 32, 3) := by decide +kernel
theorem dX8_copyFrom_65 : decode cX8_copyFrom 65 = .ok (.aload_n 0, 1) := by decide +kernel
theorem dX8_copyFrom_66 : decode cX8_copyFrom 66 = .ok (.aload_n 1, 1) := by decide +kernel
theorem dX8_copyFrom_67 : decode cX8_copyFrom 67 = .ok (.getfield 35, 3) := by decide +kernel
theorem dX8_copyFrom_70 : decode cX8_copyFrom 70 = .ok (.putfield 35, 3) := by decide +kernel
theorem dX8_copyFrom_73 : decode cX8_copyFrom 73 = .ok (.return_, 1) := by decide +kernel
theorem dX8_copyTable_0 : decode cX8_copyTable 0 = .ok (.iconst 0, 1) := by decide +kernel
theorem dX8_copyTable_1 : decode cX8_copyTable 1 = .ok (.istore_n 2, 1) := by decide +kernel
theorem dX8_copyTable_2 : decode cX8_copyTable 2 = .ok (.iload_n 2, 1) := by decide +kernel
theorem dX8_copyTable_3 : decode cX8_copyTable 3 = .ok (.aload_n 0, 1) := by decide +kernel
theorem dX8_copyTable_4 : decode cX8_copyTable 4 = .ok (.arraylength, 1) := by decide +kernel
theorem dX8_copyTable_5 : decode cX8_copyTable 5 = .ok (.if_icmp .ge 37, 3) := by decide +kernel
theorem dX8_copyTable_8 : decode cX8_copyTable 8 = .ok (.iload_n 2, 1) := by decide +kernel
theorem dX8_copyTable_9 : decode cX8_copyTable 9 = .ok (.aload_n 1, 1) := by decide +kernel
theorem dX8_copyTable_10 : decode cX8_copyTable 10 = .ok (.arraylength, 1) := by decide +kernel
theorem dX8_copyTable_11 : decode cX8_copyTable 11 = .ok (.if_icmp .ge 31, 3) := by decide +kernel
theorem dX8_copyTable_14 : decode cX8_copyTable 14 = .ok (.aload_n 0, 1) := by decide +kernel
theorem dX8_copyTable_15 : decode cX8_copyTable 15 = .ok (.iload_n 2, 1) := by decide +kernel
theorem dX8_copyTable_16 : decode cX8_copyTable 16 = .ok (.aaload, 1) := by decide +kernel
theorem dX8_copyTable_17 : decode cX8_copyTable 17 = .ok (.iconst 0, 1) := by decide +kernel
theorem dX8_copyTable_18 : decode cX8_copyTable 18 = .ok (.aload_n 1, 1) := by decide +kernel
theorem dX8_copyTable_19 : decode cX8_copyTable 19 = .ok (.iload_n 2, 1) := by decide +kernel
theorem dX8_copyTable_20 : decode cX8_copyTable 20 = .ok (.aaload, 1) := by decide +kernel
theorem dX8_copyTable_21 : decode cX8_copyTable 21 = .ok (.iconst 0, 1) := by decide +kernel
theorem dX8_copyTable_22 : decode cX8_copyTable 22 = .ok (.aload_n 0, 1) := by decide +kernel
theorem dX8_copyTable_23 : decode cX8_copyTable 23 = .ok (.iload_n 2, 1) := by decide +kernel
theorem dX8_copyTable_24 : decode cX8_copyTable 24 = .ok (.aaload, 1) := by decide +kernel
theorem dX8_copyTable_25 : decode cX8_copyTable 25 = .ok (.arraylength, 1) := by decide +kernel
theorem dX8_copyTable_26 : decode cX8_copyTable 26 = .ok (.aload_n 1, 1) := by decide +kernel
theorem dX8_copyTable_27 : decode cX8_copyTable 27 = .ok (.iload_n 2, 1) := by decide +kernel
theorem dX8_copyTable_28 : decode cX8_copyTable 28 = .ok (.aaload, 1) := by decide +kernel
theorem dX8_copyTable_29 : decode cX8_copyTable 29 = .ok (.arraylength, 1) := by decide +kernel
theorem dX8_copyTable_30 : decode cX8_copyTable 30 = .ok (.invokestatic 42, 3) := by decide +kernel
theorem dX8_copyTable_33 : decode cX8_copyTable 33 = .ok (.invokestatic 48, 3) := by decide +kernel
theorem dX8_copyTable_36 : decode cX8_copyTable 36 = .ok (.iinc 2 1, 3) := by decide +kernel
theorem dX8_copyTable_39 : decode cX8_copyTable 39 = .ok (.goto (-37), 3) := by decide +kernel
theorem dX8_copyTable_42 : decode cX8_copyTable 42 = .ok (.return_, 1) := by decide +kernel
theorem dX8_add_0 : decode cX8_add 0 = .ok (.aload_n 0, 1) := by decide +kernel
theorem dX8_add_1 : decode cX8_add 1 = .ok (.getfield 22, 3) := by decide +kernel
theorem dX8_add_4 : decode cX8_add 4 = .ok (.bipush 8, 2) := by decide +kernel
theorem dX8_add_6 : decode cX8_add 6 = .ok (.if_icmp .lt 5, 3) := by decide +kernel
theorem dX8_add_9 : decode cX8_add 9 = .ok (.iconst (-1), 1) := by decide +kernel
theorem dX8_add_10 : decode cX8_add 10 = .ok (.ireturn, 1) := by decide +kernel
theorem dX8_add_11 : decode cX8_add 11 = .ok (.aload_n 0, 1) := by decide +kernel
theorem dX8_add_12 : decode cX8_add 12 = .ok (.getfield 22, 3) := by decide +kernel
theorem dX8_add_15 : decode cX8_add 15 = .ok (.istore_n 2, 1) := by decide +kernel
theorem dX8_add_16 : decode cX8_add 16 = .ok (.aload_n 0, 1) := by decide +kernel
theorem dX8_add_17 : decode cX8_add 17 = .ok (.dup, 1) := by decide +kernel
theorem dX8_add_18 : decode cX8_add 18 = .ok (.getfield 22, 3) := by decide +kernel
theorem dX8_add_21 : decode cX8_add 21 = .ok (.iconst 1, 1) := by decide +kernel
theorem dX8_add_22 : decode cX8_add 22 = .ok (.iadd, 1) := by decide +kernel
theorem dX8_add_23 : decode cX8_add 23 = .ok (.putfield 22, 3) := by decide +kernel
theorem dX8_add_26 : decode cX8_add 26 = .ok (.iconst 0, 1) := by decide +kernel
theorem dX8_add_27 : decode cX8_add 27 = .ok (.istore_n 3, 1) := by decide +kernel
theorem dX8_add_28 : decode cX8_add 28 = .ok (.iload_n 3, 1) := by decide +kernel
theorem dX8_add_29 : decode cX8_add 29 = .ok (.bipush 9, 2) := by decide +kernel
theorem dX8_add_31 : decode cX8_add 31 = .ok (.if_icmp .ge 18, 3) := by decide +kernel
theorem dX8_add_34 : decode cX8_add 34 = .ok (.aload_n 0, 1) := by decide +kernel
theorem dX8_add_35 : decode cX8_add 35 = .ok (.getfield 16, 3) := by decide +kernel
theorem dX8_add_38 : decode cX8_add 38 = .ok (.iload_n 3, 1) := by decide +kernel
theorem dX8_add_39 : decode cX8_add 39 = .ok (.aaload, 1) := by decide +kernel
theorem dX8_add_40 : decode cX8_add 40 = .ok (.iload_n 2, 1) := by decide +kernel
theorem dX8_add_41 : decode cX8_add 41 = .ok (.iconst 0, 1) := by decide +kernel
theorem dX8_add_42 : decode cX8_add 42 = .ok (.iastore, 1) := by decide +kernel
theorem dX8_add_43 : decode cX8_add 43 = .ok (.iinc 3 1, 3) := by decide +kernel
theorem dX8_add_46 : decode cX8_add 46 = .ok (.goto (-18), 3) := by decide +kernel
theorem dX8_add_49 : decode cX8_add 49 = .ok (.aload_n 0, 1) := by decide +kernel
theorem dX8_add_50 : decode cX8_add 50 = .ok (.getfield 16, 3) := by decide +kernel
theorem dX8_add_53 : decode cX8_add 53 = .ok (.iconst 1, 1) := by decide +kernel
theorem dX8_add_54 : decode cX8_add 54 = .ok (.aaload, 1) := by decide +kernel
theorem dX8_add_55 : decode cX8_add 55 = .ok (.iload_n 2, 1) := by decide +kernel
theorem dX8_add_56 : decode cX8_add 56 = .ok (.iload_n 1, 1) := by decide +kernel
theorem dX8_add_57 : decode cX8_add 57 = .ok (.iastore, 1) := by decide +kernel
theorem dX8_add_58 : decode cX8_add 58 = .ok (.aload_n 0, 1) := by decide +kernel
theorem dX8_add_59 : decode cX8_add 59 = .ok (.getfield 16, 3) := by decide +kernel
theorem dX8_add_62 : decode cX8_add 62 = .ok (.iconst 2, 1) := by decide +kernel
theorem dX8_add_63 : decode cX8_add 63 = .ok (.aaload, 1) := by decide +kernel
theorem dX8_add_64 : decode cX8_add 64 = .ok (.iload_n 2, 1) := by decide +kernel
theorem dX8_add_65 : decode cX8_add 65 = .ok (.bipush 31, 2) := by decide +kernel
theorem dX8_add_67 : decode cX8_add 67 = .ok (.iastore, 1) := by decide +kernel
theorem dX8_add_68 : decode cX8_add 68 = .ok (.aload_n 0, 1) := by decide +kernel
theorem dX8_add_69 : decode cX8_add 69 = .ok (.getfield 16, 3) := by decide +kernel
theorem dX8_add_72 : decode cX8_add 72 = .ok (.iconst 3, 1) := by decide +kernel
theorem dX8_add_73 : decode cX8_add 73 = .ok (.aaload, 1) := by decide +kernel
theorem dX8_add_74 : decode cX8_add 74 = .ok (.iload_n 2, 1) := by decide +kernel
theorem dX8_add_75 : decode cX8_add 75 = .ok (.iconst 5, 1) := by decide +kernel
theorem dX8_add_76 : decode cX8_add 76 = .ok (.iastore, 1) := by decide +kernel
theorem dX8_add_77 : decode cX8_add 77 = .ok (.aload_n 0, 1) := by decide +kernel
theorem dX8_add_78 : decode cX8_add 78 = .ok (.getfield 16, 3) := by decide +kernel
theorem dX8_add_81 : decode cX8_add 81 = .ok (.iconst 4, 1) := by decide +kernel
theorem dX8_add_82 : decode cX8_add 82 = .ok (.aaload, 1) := by decide +kernel
theorem dX8_add_83 : decode cX8_add 83 = .ok (.iload_n 2, 1) := by decide +kernel
theorem dX8_add_84 : decode cX8_add 84 = .ok (.iconst (-1), 1) := by decide +kernel
theorem dX8_add_85 : decode cX8_add 85 = .ok (.iastore, 1) := by decide +kernel
theorem dX8_add_86 : decode cX8_add 86 = .ok (.aload_n 0, 1) := by decide +kernel
theorem dX8_add_87 : decode cX8_add 87 = .ok (.getfield 16, 3) := by decide +kernel
theorem dX8_add_90 : decode cX8_add 90 = .ok (.iconst 5, 1) := by decide +kernel
theorem dX8_add_91 : decode cX8_add 91 = .ok (.aaload, 1) := by decide +kernel
theorem dX8_add_92 : decode cX8_add 92 = .ok (.iload_n 2, 1) := by decide +kernel
theorem dX8_add_93 : decode cX8_add 93 = .ok (.iconst (-1), 1) := by decide +kernel
theorem dX8_add_94 : decode cX8_add 94 = .ok (.iastore, 1) := by decide +kernel
theorem dX8_add_95 : decode cX8_add 95 = .ok (.aload_n 0, 1) := by decide +kernel
theorem dX8_add_96 : decode cX8_add 96 = .ok (.getfield 16, 3) := by decide +kernel
theorem dX8_add_99 : decode cX8_add 99 = .ok (.bipush 8, 2) := by decide +kernel
theorem dX8_add_101 : decode cX8_add 101 = .ok (.aaload, 1) := by decide +kernel
theorem dX8_add_102 : decode cX8_add 102 = .ok (.iload_n 2, 1) := by decide +kernel
theorem dX8_add_103 : decode cX8_add 103 = .ok (.iconst (-1), 1) := by decide +kernel
theorem dX8_add_104 : decode cX8_add 104 = .ok (.iastore, 1) := by decide +kernel
theorem dX8_add_105 : decode cX8_add 105 = .ok (.iload_n 2, 1) := by decide +kernel
theorem dX8_add_106 : decode cX8_add 106 = .ok (.ireturn, 1) := by decide +kernel
theorem dX8_draw_0 : decode cX8_draw 0 = .ok (.aload_n 0, 1) := by decide +kernel
theorem dX8_draw_1 : decode cX8_draw 1 = .ok (.ldc 54, 2) := by decide +kernel
theorem dX8_draw_3 : decode cX8_draw 3 = .ok (.aload_n 0, 1) := by decide +kernel
theorem dX8_draw_4 : decode cX8_draw 4 = .ok (.getfield 35, 3) := by decide +kernel
theorem dX8_draw_7 : decode cX8_draw 7 = .ok (.imul, 1) := by decide +kernel
theorem dX8_draw_8 : decode cX8_draw 8 = .ok (.sipush 12345, 3) := by decide +kernel
theorem dX8_draw_11 : decode cX8_draw 11 = .ok (.iadd, 1) := by decide +kernel
theorem dX8_draw_12 : decode cX8_draw 12 = .ok (.putfield 35, 3) := by decide +kernel
theorem dX8_draw_15 : decode cX8_draw 15 = .ok (.aload_n 0, 1) := by decide +kernel
theorem dX8_draw_16 : decode cX8_draw 16 = .ok (.getfield 35, 3) := by decide +kernel
theorem dX8_draw_19 : decode cX8_draw 19 = .ok (.bipush 16, 2) := by decide +kernel
theorem dX8_draw_21 : decode cX8_draw 21 = .ok (.iushr, 1) := by decide +kernel
theorem dX8_draw_22 : decode cX8_draw 22 = .ok (.sipush 32767, 3) := by decide +kernel
theorem dX8_draw_25 : decode cX8_draw 25 = .ok (.iand, 1) := by decide +kernel
theorem dX8_draw_26 : decode cX8_draw 26 = .ok (.ireturn, 1) := by decide +kernel
theorem dX8_drawThing_0 : decode cX8_drawThing 0 = .ok (.aload_n 0, 1) := by decide +kernel
theorem dX8_drawThing_1 : decode cX8_drawThing 1 = .ok (.invokevirtual 55, 3) := by decide +kernel
theorem dX8_drawThing_4 : decode cX8_drawThing 4 = .ok (.istore_n 1, 1) := by decide +kernel
theorem dX8_drawThing_5 : decode cX8_drawThing 5 = .ok (.iload_n 1, 1) := by decide +kernel
theorem dX8_drawThing_6 : decode cX8_drawThing 6 = .ok (.ifCond .gt 6, 3) := by decide +kernel
theorem dX8_drawThing_9 : decode cX8_drawThing 9 = .ok (.bipush 8, 2) := by decide +kernel
theorem dX8_drawThing_11 : decode cX8_drawThing 11 = .ok (.ireturn, 1) := by decide +kernel
theorem dX8_drawThing_12 : decode cX8_drawThing 12 = .ok (.aload_n 0, 1) := by decide +kernel
theorem dX8_drawThing_13 : decode cX8_drawThing 13 = .ok (.invokevirtual 59, 3) := by decide +kernel
theorem dX8_drawThing_16 : decode cX8_drawThing 16 = .ok (.iload_n 1, 1) := by decide +kernel
theorem dX8_drawThing_17 : decode cX8_drawThing 17 = .ok (.irem, 1) := by decide +kernel
theorem dX8_drawThing_18 : decode cX8_drawThing 18 = .ok (.istore_n 2, 1) := by decide +kernel
theorem dX8_drawThing_19 : decode cX8_drawThing 19 = .ok (.iconst 0, 1) := by decide +kernel
theorem dX8_drawThing_20 : decode cX8_drawThing 20 = .ok (.istore_n 3, 1) := by decide +kernel
theorem dX8_drawThing_21 : decode cX8_drawThing 21 = .ok (.iconst 0, 1) := by decide +kernel
theorem dX8_drawThing_22 : decode cX8_drawThing 22 = .ok (.istore 4, 2) := by decide +kernel
theorem dX8_drawThing_24 : decode cX8_drawThing 24 = .ok (.iload 4, 2) := by decide +kernel
theorem dX8_drawThing_26 : decode cX8_drawThing 26 = .ok (.bipush 8, 2) := by decide +kernel
theorem dX8_drawThing_28 : decode cX8_drawThing 28 = .ok (.if_icmp .ge 29, 3) := by decide +kernel
theorem dX8_drawThing_31 : decode cX8_drawThing 31 = .ok (.iload_n 3, 1) := by decide +kernel
theorem dX8_drawThing_32 : decode cX8_drawThing 32 = .ok (.aload_n 0, 1) := by decide +kernel
theorem dX8_drawThing_33 : decode cX8_drawThing 33 = .ok (.getfield 11, 3) := by decide +kernel
theorem dX8_drawThing_36 : decode cX8_drawThing 36 = .ok (.iconst 0, 1) := by decide +kernel
theorem dX8_drawThing_37 : decode cX8_drawThing 37 = .ok (.aaload, 1) := by decide +kernel
theorem dX8_drawThing_38 : decode cX8_drawThing 38 = .ok (.iload 4, 2) := by decide +kernel
theorem dX8_drawThing_40 : decode cX8_drawThing 40 = .ok (.iaload, 1) := by decide +kernel
theorem dX8_drawThing_41 : decode cX8_drawThing 41 = .ok (.iadd, 1) := by decide +kernel
theorem dX8_drawThing_42 : decode cX8_drawThing 42 = .ok (.istore_n 3, 1) := by decide +kernel
theorem dX8_drawThing_43 : decode cX8_drawThing 43 = .ok (.iload_n 3, 1) := by decide +kernel
theorem dX8_drawThing_44 : decode cX8_drawThing 44 = .ok (.iload_n 2, 1) := by decide +kernel
theorem dX8_drawThing_45 : decode cX8_drawThing 45 = .ok (.if_icmp .le 6, 3) := by decide +kernel
theorem dX8_drawThing_48 : decode cX8_drawThing 48 = .ok (.iload 4, 2) := by decide +kernel
theorem dX8_drawThing_50 : decode cX8_drawThing 50 = .ok (.ireturn, 1) := by decide +kernel
theorem dX8_drawThing_51 : decode cX8_drawThing 51 = .ok (.iinc 4 1, 3) := by decide +kernel
theorem dX8_drawThing_54 : decode cX8_drawThing 54 = .ok (.goto (-30), 3) := by decide +kernel
theorem dX8_drawThing_57 : decode cX8_drawThing 57 = .ok (.bipush 8, 2) := by decide +kernel
theorem dX8_drawThing_59 : decode cX8_drawThing 59 = .ok (.ireturn, 1) := by decide +kernel
theorem dX8_pass_0 : decode cX8_pass 0 = .ok (.iconst 0, 1) := by decide +kernel
theorem dX8_pass_1 : decode cX8_pass 1 = .ok (.istore_n 3, 1) := by decide +kernel
theorem dX8_pass_2 : decode cX8_pass 2 = .ok (.iconst 0, 1) := by decide +kernel
theorem dX8_pass_3 : decode cX8_pass 3 = .ok (.istore 4, 2) := by decide +kernel
theorem dX8_pass_5 : decode cX8_pass 5 = .ok (.iload 4, 2) := by decide +kernel
theorem dX8_pass_7 : decode cX8_pass 7 = .ok (.aload_n 0, 1) := by decide +kernel
theorem dX8_pass_8 : decode cX8_pass 8 = .ok (.getfield 22, 3) := by decide +kernel
theorem dX8_pass_11 : decode cX8_pass 11 = .ok (.if_icmp .ge 43, 3) := by decide +kernel
theorem dX8_pass_14 : decode cX8_pass 14 = .ok (.aload_n 0, 1) := by decide +kernel
theorem dX8_pass_15 : decode cX8_pass 15 = .ok (.getfield 16, 3) := by decide +kernel
theorem dX8_pass_18 : decode cX8_pass 18 = .ok (.bipush 7, 2) := by decide +kernel
theorem dX8_pass_20 : decode cX8_pass 20 = .ok (.aaload, 1) := by decide +kernel
theorem dX8_pass_21 : decode cX8_pass 21 = .ok (.iload 4, 2) := by decide +kernel
theorem dX8_pass_23 : decode cX8_pass 23 = .ok (.iaload, 1) := by decide +kernel
theorem dX8_pass_24 : decode cX8_pass 24 = .ok (.ifCond .ne 24, 3) := by decide +kernel
theorem dX8_pass_27 : decode cX8_pass 27 = .ok (.aload_n 0, 1) := by decide +kernel
theorem dX8_pass_28 : decode cX8_pass 28 = .ok (.iload 4, 2) := by decide +kernel
theorem dX8_pass_30 : decode cX8_pass 30 = .ok (.aload_n 1, 1) := by decide +kernel
theorem dX8_pass_31 : decode cX8_pass 31 = .ok (.iload_n 2, 1) := by decide +kernel
theorem dX8_pass_32 : decode cX8_pass 32 = .ok (.invokevirtual 62, 3) := by decide +kernel
theorem dX8_pass_35 : decode cX8_pass 35 = .ok (.ifCond .eq 13, 3) := by decide +kernel
theorem dX8_pass_38 : decode cX8_pass 38 = .ok (.aload_n 0, 1) := by decide +kernel
theorem dX8_pass_39 : decode cX8_pass 39 = .ok (.iload 4, 2) := by decide +kernel
theorem dX8_pass_41 : decode cX8_pass 41 = .ok (.aload_n 1, 1) := by decide +kernel
theorem dX8_pass_42 : decode cX8_pass 42 = .ok (.invokevirtual 66, 3) := by decide +kernel
theorem dX8_pass_45 : decode cX8_pass 45 = .ok (.iinc 3 1, 3) := by decide +kernel
theorem dX8_pass_48 : decode cX8_pass 48 = .ok (.iinc 4 1, 3) := by decide +kernel
theorem dX8_pass_51 : decode cX8_pass 51 = .ok (.goto (-46), 3) := by decide +kernel
theorem dX8_pass_54 : decode cX8_pass 54 = .ok (.aload_n 0, 1) := by decide +kernel
theorem dX8_pass_55 : decode cX8_pass 55 = .ok (.aload_n 0, 1) := by decide +kernel
theorem dX8_pass_56 : decode cX8_pass 56 = .ok (.getfield 29, 3) := by decide +kernel
theorem dX8_pass_59 : decode cX8_pass 59 = .ok (.iconst 1, 1) := by decide +kernel
theorem dX8_pass_60 : decode cX8_pass 60 = .ok (.iadd, 1) := by decide +kernel
theorem dX8_pass_61 : decode cX8_pass 61 = .ok (.sipush 9999, 3) := by decide +kernel
theorem dX8_pass_64 : decode cX8_pass 64 = .ok (.invokestatic 42, 3) := by decide +kernel
theorem dX8_pass_67 : decode cX8_pass 67 = .ok (.putfield 29, 3) := by decide +kernel
theorem dX8_pass_70 : decode cX8_pass 70 = .ok (.iload_n 3, 1) := by decide +kernel
theorem dX8_pass_71 : decode cX8_pass 71 = .ok (.ireturn, 1) := by decide +kernel
theorem dX8_losesLastFinger_0 : decode cX8_losesLastFinger 0 = .ok (.aload_n 0, 1) := by decide +kernel
theorem dX8_losesLastFinger_1 : decode cX8_losesLastFinger 1 = .ok (.getfield 16, 3) := by decide +kernel
theorem dX8_losesLastFinger_4 : decode cX8_losesLastFinger 4 = .ok (.iconst 0, 1) := by decide +kernel
theorem dX8_losesLastFinger_5 : decode cX8_losesLastFinger 5 = .ok (.aaload, 1) := by decide +kernel
theorem dX8_losesLastFinger_6 : decode cX8_losesLastFinger 6 = .ok (.iload_n 1, 1) := by decide +kernel
theorem dX8_losesLastFinger_7 : decode cX8_losesLastFinger 7 = .ok (.aload_n 0, 1) := by decide +kernel
theorem dX8_losesLastFinger_8 : decode cX8_losesLastFinger 8 = .ok (.getfield 16, 3) := by decide +kernel
theorem dX8_losesLastFinger_11 : decode cX8_losesLastFinger 11 = .ok (.iconst 0, 1) := by decide +kernel
theorem dX8_losesLastFinger_12 : decode cX8_losesLastFinger 12 = .ok (.aaload, 1) := by decide +kernel
theorem dX8_losesLastFinger_13 : decode cX8_losesLastFinger 13 = .ok (.iload_n 1, 1) := by decide +kernel
theorem dX8_losesLastFinger_14 : decode cX8_losesLastFinger 14 = .ok (.iaload, 1) := by decide +kernel
theorem dX8_losesLastFinger_15 : decode cX8_losesLastFinger 15 = .ok (.iconst 1, 1) := by decide +kernel
theorem dX8_losesLastFinger_16 : decode cX8_losesLastFinger 16 = .ok (.iadd, 1) := by decide +kernel
theorem dX8_losesLastFinger_17 : decode cX8_losesLastFinger 17 = .ok (.sipush 999, 3) := by decide +kernel
theorem dX8_losesLastFinger_20 : decode cX8_losesLastFinger 20 = .ok (.invokestatic 42, 3) := by decide +kernel
theorem dX8_losesLastFinger_23 : decode cX8_losesLastFinger 23 = .ok (.iastore, 1) := by decide +kernel
theorem dX8_losesLastFinger_24 : decode cX8_losesLastFinger 24 = .ok (.iload_n 3, 1) := by decide +kernel
theorem dX8_losesLastFinger_25 : decode cX8_losesLastFinger 25 = .ok (.ifCond .eq 15, 3) := by decide +kernel
theorem dX8_losesLastFinger_28 : decode cX8_losesLastFinger 28 = .ok (.aload_n 0, 1) := by decide +kernel
theorem dX8_losesLastFinger_29 : decode cX8_losesLastFinger 29 = .ok (.invokevirtual 59, 3) := by decide +kernel
theorem dX8_losesLastFinger_32 : decode cX8_losesLastFinger 32 = .ok (.bipush 100, 2) := by decide +kernel
theorem dX8_losesLastFinger_34 : decode cX8_losesLastFinger 34 = .ok (.irem, 1) := by decide +kernel
theorem dX8_losesLastFinger_35 : decode cX8_losesLastFinger 35 = .ok (.iconst 1, 1) := by decide +kernel
theorem dX8_losesLastFinger_36 : decode cX8_losesLastFinger 36 = .ok (.iadd, 1) := by decide +kernel
theorem dX8_losesLastFinger_37 : decode cX8_losesLastFinger 37 = .ok (.goto 5, 3) := by decide +kernel
theorem dX8_losesLastFinger_40 : decode cX8_losesLastFinger 40 = .ok (.bipush 50, 2) := by decide +kernel
theorem dX8_losesLastFinger_42 : decode cX8_losesLastFinger 42 = .ok (.istore 4, 2) := by decide +kernel
theorem dX8_losesLastFinger_44 : decode cX8_losesLastFinger 44 = .ok (.aload_n 0, 1) := by decide +kernel
theorem dX8_losesLastFinger_45 : decode cX8_losesLastFinger 45 = .ok (.getfield 16, 3) := by decide +kernel
theorem dX8_losesLastFinger_48 : decode cX8_losesLastFinger 48 = .ok (.bipush 8, 2) := by decide +kernel
theorem dX8_losesLastFinger_50 : decode cX8_losesLastFinger 50 = .ok (.aaload, 1) := by decide +kernel
theorem dX8_losesLastFinger_51 : decode cX8_losesLastFinger 51 = .ok (.iload_n 1, 1) := by decide +kernel
theorem dX8_losesLastFinger_52 : decode cX8_losesLastFinger 52 = .ok (.iaload, 1) := by decide +kernel
theorem dX8_losesLastFinger_53 : decode cX8_losesLastFinger 53 = .ok (.iconst (-1), 1) := by decide +kernel
theorem dX8_losesLastFinger_54 : decode cX8_losesLastFinger 54 = .ok (.if_icmp .ne 14, 3) := by decide +kernel
theorem dX8_losesLastFinger_57 : decode cX8_losesLastFinger 57 = .ok (.aload_n 2, 1) := by decide +kernel
theorem dX8_losesLastFinger_58 : decode cX8_losesLastFinger 58 = .ok (.aload_n 0, 1) := by decide +kernel
theorem dX8_losesLastFinger_59 : decode cX8_losesLastFinger 59 = .ok (.iload_n 1, 1) := by decide +kernel
theorem dX8_losesLastFinger_60 : decode cX8_losesLastFinger 60 = .ok (.invokevirtual 70, 3) := by decide +kernel
theorem dX8_losesLastFinger_63 : decode cX8_losesLastFinger 63 = .ok (.iload 4, 2) := by decide +kernel
theorem dX8_losesLastFinger_65 : decode cX8_losesLastFinger 65 = .ok (.if_icmp .ge 5, 3) := by decide +kernel
theorem dX8_losesLastFinger_68 : decode cX8_losesLastFinger 68 = .ok (.iconst 0, 1) := by decide +kernel
theorem dX8_losesLastFinger_69 : decode cX8_losesLastFinger 69 = .ok (.ireturn, 1) := by decide +kernel
theorem dX8_losesLastFinger_70 : decode cX8_losesLastFinger 70 = .ok (.aload_n 0, 1) := by decide +kernel
theorem dX8_losesLastFinger_71 : decode cX8_losesLastFinger 71 = .ok (.getfield 16, 3) := by decide +kernel
theorem dX8_losesLastFinger_74 : decode cX8_losesLastFinger 74 = .ok (.iconst 2, 1) := by decide +kernel
theorem dX8_losesLastFinger_75 : decode cX8_losesLastFinger 75 = .ok (.aaload, 1) := by decide +kernel
theorem dX8_losesLastFinger_76 : decode cX8_losesLastFinger 76 = .ok (.iload_n 1, 1) := by decide +kernel
theorem dX8_losesLastFinger_77 : decode cX8_losesLastFinger 77 = .ok (.iaload, 1) := by decide +kernel
theorem dX8_losesLastFinger_78 : decode cX8_losesLastFinger 78 = .ok (.istore 5, 2) := by decide +kernel
theorem dX8_losesLastFinger_80 : decode cX8_losesLastFinger 80 = .ok (.aload_n 0, 1) := by decide +kernel
theorem dX8_losesLastFinger_81 : decode cX8_losesLastFinger 81 = .ok (.getfield 16, 3) := by decide +kernel
theorem dX8_losesLastFinger_84 : decode cX8_losesLastFinger 84 = .ok (.iconst 2, 1) := by decide +kernel
theorem dX8_losesLastFinger_85 : decode cX8_losesLastFinger 85 = .ok (.aaload, 1) := by decide +kernel
theorem dX8_losesLastFinger_86 : decode cX8_losesLastFinger 86 = .ok (.iload_n 1, 1) := by decide +kernel
theorem dX8_losesLastFinger_87 : decode cX8_losesLastFinger 87 = .ok (.iload 5, 2) := by decide +kernel
theorem dX8_losesLastFinger_89 : decode cX8_losesLastFinger 89 = .ok (.iload 5, 2) := by decide +kernel
theorem dX8_losesLastFinger_91 : decode cX8_losesLastFinger 91 = .ok (.iconst 1, 1) := by decide +kernel
theorem dX8_losesLastFinger_92 : decode cX8_losesLastFinger 92 = .ok (.isub, 1) := by decide +kernel
theorem dX8_losesLastFinger_93 : decode cX8_losesLastFinger 93 = .ok (.iand, 1) := by decide +kernel
theorem dX8_losesLastFinger_94 : decode cX8_losesLastFinger 94 = .ok (.iastore, 1) := by decide +kernel
theorem dX8_losesLastFinger_95 : decode cX8_losesLastFinger 95 = .ok (.aload_n 0, 1) := by decide +kernel
theorem dX8_losesLastFinger_96 : decode cX8_losesLastFinger 96 = .ok (.getfield 16, 3) := by decide +kernel
theorem dX8_losesLastFinger_99 : decode cX8_losesLastFinger 99 = .ok (.iconst 2, 1) := by decide +kernel
theorem dX8_losesLastFinger_100 : decode cX8_losesLastFinger 100 = .ok (.aaload, 1) := by decide +kernel
theorem dX8_losesLastFinger_101 : decode cX8_losesLastFinger 101 = .ok (.iload_n 1, 1) := by decide +kernel
theorem dX8_losesLastFinger_102 : decode cX8_losesLastFinger 102 = .ok (.iaload, 1) := by decide +kernel
theorem dX8_losesLastFinger_103 : decode cX8_losesLastFinger 103 = .ok (.ifCond .ne 7, 3) := by decide +kernel
theorem dX8_losesLastFinger_106 : decode cX8_losesLastFinger 106 = .ok (.iconst 1, 1) := by decide +kernel
theorem dX8_losesLastFinger_107 : decode cX8_losesLastFinger 107 = .ok (.goto 4, 3) := by decide +kernel
theorem dX8_losesLastFinger_110 : decode cX8_losesLastFinger 110 = .ok (.iconst 0, 1) := by decide +kernel
theorem dX8_losesLastFinger_111 : decode cX8_losesLastFinger 111 = .ok (.ireturn, 1) := by decide +kernel
theorem dX8_opens_0 : decode cX8_opens 0 = .ok (.aload_n 0, 1) := by decide +kernel
theorem dX8_opens_1 : decode cX8_opens 1 = .ok (.getfield 16, 3) := by decide +kernel
theorem dX8_opens_4 : decode cX8_opens 4 = .ok (.iconst 1, 1) := by decide +kernel
theorem dX8_opens_5 : decode cX8_opens 5 = .ok (.aaload, 1) := by decide +kernel
theorem dX8_opens_6 : decode cX8_opens 6 = .ok (.iload_n 1, 1) := by decide +kernel
theorem dX8_opens_7 : decode cX8_opens 7 = .ok (.iaload, 1) := by decide +kernel
theorem dX8_opens_8 : decode cX8_opens 8 = .ok (.istore_n 3, 1) := by decide +kernel
theorem dX8_opens_9 : decode cX8_opens 9 = .ok (.aload_n 0, 1) := by decide +kernel
theorem dX8_opens_10 : decode cX8_opens 10 = .ok (.getfield 16, 3) := by decide +kernel
theorem dX8_opens_13 : decode cX8_opens 13 = .ok (.bipush 6, 2) := by decide +kernel
theorem dX8_opens_15 : decode cX8_opens 15 = .ok (.aaload, 1) := by decide +kernel
theorem dX8_opens_16 : decode cX8_opens 16 = .ok (.iload_n 1, 1) := by decide +kernel
theorem dX8_opens_17 : decode cX8_opens 17 = .ok (.iaload, 1) := by decide +kernel
theorem dX8_opens_18 : decode cX8_opens 18 = .ok (.aload_n 2, 1) := by decide +kernel
theorem dX8_opens_19 : decode cX8_opens 19 = .ok (.aload_n 0, 1) := by decide +kernel
theorem dX8_opens_20 : decode cX8_opens 20 = .ok (.iload_n 1, 1) := by decide +kernel
theorem dX8_opens_21 : decode cX8_opens 21 = .ok (.invokevirtual 76, 3) := by decide +kernel
theorem dX8_opens_24 : decode cX8_opens 24 = .ok (.iadd, 1) := by decide +kernel
theorem dX8_opens_25 : decode cX8_opens 25 = .ok (.sipush 999, 3) := by decide +kernel
theorem dX8_opens_28 : decode cX8_opens 28 = .ok (.invokestatic 42, 3) := by decide +kernel
theorem dX8_opens_31 : decode cX8_opens 31 = .ok (.istore 4, 2) := by decide +kernel
theorem dX8_opens_33 : decode cX8_opens 33 = .ok (.aload_n 0, 1) := by decide +kernel
theorem dX8_opens_34 : decode cX8_opens 34 = .ok (.getfield 16, 3) := by decide +kernel
theorem dX8_opens_37 : decode cX8_opens 37 = .ok (.bipush 6, 2) := by decide +kernel
theorem dX8_opens_39 : decode cX8_opens 39 = .ok (.aaload, 1) := by decide +kernel
theorem dX8_opens_40 : decode cX8_opens 40 = .ok (.iload_n 1, 1) := by decide +kernel
theorem dX8_opens_41 : decode cX8_opens 41 = .ok (.iload 4, 2) := by decide +kernel
theorem dX8_opens_43 : decode cX8_opens 43 = .ok (.iastore, 1) := by decide +kernel
theorem dX8_opens_44 : decode cX8_opens 44 = .ok (.aload_n 0, 1) := by decide +kernel
theorem dX8_opens_45 : decode cX8_opens 45 = .ok (.getfield 16, 3) := by decide +kernel
theorem dX8_opens_48 : decode cX8_opens 48 = .ok (.iconst 5, 1) := by decide +kernel
theorem dX8_opens_49 : decode cX8_opens 49 = .ok (.aaload, 1) := by decide +kernel
theorem dX8_opens_50 : decode cX8_opens 50 = .ok (.iload_n 1, 1) := by decide +kernel
theorem dX8_opens_51 : decode cX8_opens 51 = .ok (.iload_n 3, 1) := by decide +kernel
theorem dX8_opens_52 : decode cX8_opens 52 = .ok (.bipush 8, 2) := by decide +kernel
theorem dX8_opens_54 : decode cX8_opens 54 = .ok (.if_icmp .ne 7, 3) := by decide +kernel
theorem dX8_opens_57 : decode cX8_opens 57 = .ok (.iconst (-1), 1) := by decide +kernel
theorem dX8_opens_58 : decode cX8_opens 58 = .ok (.goto 4, 3) := by decide +kernel
theorem dX8_opens_61 : decode cX8_opens 61 = .ok (.iload_n 3, 1) := by decide +kernel
theorem dX8_opens_62 : decode cX8_opens 62 = .ok (.iastore, 1) := by decide +kernel
theorem dX8_opens_63 : decode cX8_opens 63 = .ok (.aload_n 0, 1) := by decide +kernel
theorem dX8_opens_64 : decode cX8_opens 64 = .ok (.getfield 16, 3) := by decide +kernel
theorem dX8_opens_67 : decode cX8_opens 67 = .ok (.bipush 7, 2) := by decide +kernel
theorem dX8_opens_69 : decode cX8_opens 69 = .ok (.aaload, 1) := by decide +kernel
theorem dX8_opens_70 : decode cX8_opens 70 = .ok (.iload_n 1, 1) := by decide +kernel
theorem dX8_opens_71 : decode cX8_opens 71 = .ok (.iconst 1, 1) := by decide +kernel
theorem dX8_opens_72 : decode cX8_opens 72 = .ok (.iastore, 1) := by decide +kernel
theorem dX8_opens_73 : decode cX8_opens 73 = .ok (.aload_n 0, 1) := by decide +kernel
theorem dX8_opens_74 : decode cX8_opens 74 = .ok (.getfield 26, 3) := by decide +kernel
theorem dX8_opens_77 : decode cX8_opens 77 = .ok (.bipush 8, 2) := by decide +kernel
theorem dX8_opens_79 : decode cX8_opens 79 = .ok (.if_icmp .ge 84, 3) := by decide +kernel
theorem dX8_opens_82 : decode cX8_opens 82 = .ok (.aload_n 0, 1) := by decide +kernel
theorem dX8_opens_83 : decode cX8_opens 83 = .ok (.getfield 19, 3) := by decide +kernel
theorem dX8_opens_86 : decode cX8_opens 86 = .ok (.iconst 0, 1) := by decide +kernel
theorem dX8_opens_87 : decode cX8_opens 87 = .ok (.aaload, 1) := by decide +kernel
theorem dX8_opens_88 : decode cX8_opens 88 = .ok (.aload_n 0, 1) := by decide +kernel
theorem dX8_opens_89 : decode cX8_opens 89 = .ok (.getfield 26, 3) := by decide +kernel
theorem dX8_opens_92 : decode cX8_opens 92 = .ok (.aload_n 0, 1) := by decide +kernel
theorem dX8_opens_93 : decode cX8_opens 93 = .ok (.getfield 29, 3) := by decide +kernel
theorem dX8_opens_96 : decode cX8_opens 96 = .ok (.iastore, 1) := by decide +kernel
theorem dX8_opens_97 : decode cX8_opens 97 = .ok (.aload_n 0, 1) := by decide +kernel
theorem dX8_opens_98 : decode cX8_opens 98 = .ok (.getfield 19, 3) := by decide +kernel
theorem dX8_opens_101 : decode cX8_opens 101 = .ok (.iconst 1, 1) := by decide +kernel
theorem dX8_opens_102 : decode cX8_opens 102 = .ok (.aaload, 1) := by decide +kernel
theorem dX8_opens_103 : decode cX8_opens 103 = .ok (.aload_n 0, 1) := by decide +kernel
theorem dX8_opens_104 : decode cX8_opens 104 = .ok (.getfield 26, 3) := by decide +kernel
theorem dX8_opens_107 : decode cX8_opens 107 = .ok (.iload_n 1, 1) := by decide +kernel
theorem dX8_opens_108 : decode cX8_opens 108 = .ok (.iastore, 1) := by decide +kernel
theorem dX8_opens_109 : decode cX8_opens 109 = .ok (.aload_n 0, 1) := by decide +kernel
theorem dX8_opens_110 : decode cX8_opens 110 = .ok (.getfield 19, 3) := by decide +kernel
theorem dX8_opens_113 : decode cX8_opens 113 = .ok (.iconst 2, 1) := by decide +kernel
theorem dX8_opens_114 : decode cX8_opens 114 = .ok (.aaload, 1) := by decide +kernel
theorem dX8_opens_115 : decode cX8_opens 115 = .ok (.aload_n 0, 1) := by decide +kernel
theorem dX8_opens_116 : decode cX8_opens 116 = .ok (.getfield 26, 3) := by decide +kernel
theorem dX8_opens_119 : decode cX8_opens 119 = .ok (.iload_n 3, 1) := by decide +kernel
theorem dX8_opens_120 : decode cX8_opens 120 = .ok (.iastore, 1) := by decide +kernel
theorem dX8_opens_121 : decode cX8_opens 121 = .ok (.aload_n 0, 1) := by decide +kernel
theorem dX8_opens_122 : decode cX8_opens 122 = .ok (.getfield 19, 3) := by decide +kernel
theorem dX8_opens_125 : decode cX8_opens 125 = .ok (.iconst 3, 1) := by decide +kernel
theorem dX8_opens_126 : decode cX8_opens 126 = .ok (.aaload, 1) := by decide +kernel
theorem dX8_opens_127 : decode cX8_opens 127 = .ok (.aload_n 0, 1) := by decide +kernel
theorem dX8_opens_128 : decode cX8_opens 128 = .ok (.getfield 26, 3) := by decide +kernel
theorem dX8_opens_131 : decode cX8_opens 131 = .ok (.aload_n 0, 1) := by decide +kernel
theorem dX8_opens_132 : decode cX8_opens 132 = .ok (.getfield 16, 3) := by decide +kernel
theorem dX8_opens_135 : decode cX8_opens 135 = .ok (.iconst 0, 1) := by decide +kernel
theorem dX8_opens_136 : decode cX8_opens 136 = .ok (.aaload, 1) := by decide +kernel
theorem dX8_opens_137 : decode cX8_opens 137 = .ok (.iload_n 1, 1) := by decide +kernel
theorem dX8_opens_138 : decode cX8_opens 138 = .ok (.iaload, 1) := by decide +kernel
theorem dX8_opens_139 : decode cX8_opens 139 = .ok (.iastore, 1) := by decide +kernel
theorem dX8_opens_140 : decode cX8_opens 140 = .ok (.aload_n 0, 1) := by decide +kernel
theorem dX8_opens_141 : decode cX8_opens 141 = .ok (.getfield 19, 3) := by decide +kernel
theorem dX8_opens_144 : decode cX8_opens 144 = .ok (.iconst 4, 1) := by decide +kernel
theorem dX8_opens_145 : decode cX8_opens 145 = .ok (.aaload, 1) := by decide +kernel
theorem dX8_opens_146 : decode cX8_opens 146 = .ok (.aload_n 0, 1) := by decide +kernel
theorem dX8_opens_147 : decode cX8_opens 147 = .ok (.getfield 26, 3) := by decide +kernel
theorem dX8_opens_150 : decode cX8_opens 150 = .ok (.iload 4, 2) := by decide +kernel
theorem dX8_opens_152 : decode cX8_opens 152 = .ok (.iastore, 1) := by decide +kernel
theorem dX8_opens_153 : decode cX8_opens 153 = .ok (.aload_n 0, 1) := by decide +kernel
theorem dX8_opens_154 : decode cX8_opens 154 = .ok (.dup, 1) := by decide +kernel
theorem dX8_opens_155 : decode cX8_opens 155 = .ok (.getfield 26, 3) := by decide +kernel
theorem dX8_opens_158 : decode cX8_opens 158 = .ok (.iconst 1, 1) := by decide +kernel
theorem dX8_opens_159 : decode cX8_opens 159 = .ok (.iadd, 1) := by decide +kernel
theorem dX8_opens_160 : decode cX8_opens 160 = .ok (.putfield 26, 3) := by decide +kernel
theorem dX8_opens_163 : decode cX8_opens 163 = .ok (.return_, 1) := by decide +kernel
theorem dX8_isMovable_0 : decode cX8_isMovable 0 = .ok (.aload_n 0, 1) := by decide +kernel
theorem dX8_isMovable_1 : decode cX8_isMovable 1 = .ok (.getfield 16, 3) := by decide +kernel
theorem dX8_isMovable_4 : decode cX8_isMovable 4 = .ok (.bipush 7, 2) := by decide +kernel
theorem dX8_isMovable_6 : decode cX8_isMovable 6 = .ok (.aaload, 1) := by decide +kernel
theorem dX8_isMovable_7 : decode cX8_isMovable 7 = .ok (.iload_n 1, 1) := by decide +kernel
theorem dX8_isMovable_8 : decode cX8_isMovable 8 = .ok (.iaload, 1) := by decide +kernel
theorem dX8_isMovable_9 : decode cX8_isMovable 9 = .ok (.ifCond .eq 5, 3) := by decide +kernel
theorem dX8_isMovable_12 : decode cX8_isMovable 12 = .ok (.iconst 0, 1) := by decide +kernel
theorem dX8_isMovable_13 : decode cX8_isMovable 13 = .ok (.ireturn, 1) := by decide +kernel
theorem dX8_isMovable_14 : decode cX8_isMovable 14 = .ok (.aload_n 0, 1) := by decide +kernel
theorem dX8_isMovable_15 : decode cX8_isMovable 15 = .ok (.getfield 16, 3) := by decide +kernel
theorem dX8_isMovable_18 : decode cX8_isMovable 18 = .ok (.bipush 8, 2) := by decide +kernel
theorem dX8_isMovable_20 : decode cX8_isMovable 20 = .ok (.aaload, 1) := by decide +kernel
theorem dX8_isMovable_21 : decode cX8_isMovable 21 = .ok (.iload_n 1, 1) := by decide +kernel
theorem dX8_isMovable_22 : decode cX8_isMovable 22 = .ok (.iaload, 1) := by decide +kernel
theorem dX8_isMovable_23 : decode cX8_isMovable 23 = .ok (.istore_n 3, 1) := by decide +kernel
theorem dX8_isMovable_24 : decode cX8_isMovable 24 = .ok (.iload_n 3, 1) := by decide +kernel
theorem dX8_isMovable_25 : decode cX8_isMovable 25 = .ok (.iconst (-1), 1) := by decide +kernel
theorem dX8_isMovable_26 : decode cX8_isMovable 26 = .ok (.if_icmp .eq 26, 3) := by decide +kernel
theorem dX8_isMovable_29 : decode cX8_isMovable 29 = .ok (.aload_n 0, 1) := by decide +kernel
theorem dX8_isMovable_30 : decode cX8_isMovable 30 = .ok (.getfield 16, 3) := by decide +kernel
theorem dX8_isMovable_33 : decode cX8_isMovable 33 = .ok (.iconst 2, 1) := by decide +kernel
theorem dX8_isMovable_34 : decode cX8_isMovable 34 = .ok (.aaload, 1) := by decide +kernel
theorem dX8_isMovable_35 : decode cX8_isMovable 35 = .ok (.iload_n 1, 1) := by decide +kernel
theorem dX8_isMovable_36 : decode cX8_isMovable 36 = .ok (.iaload, 1) := by decide +kernel
theorem dX8_isMovable_37 : decode cX8_isMovable 37 = .ok (.aload_n 0, 1) := by decide +kernel
theorem dX8_isMovable_38 : decode cX8_isMovable 38 = .ok (.getfield 16, 3) := by decide +kernel
theorem dX8_isMovable_41 : decode cX8_isMovable 41 = .ok (.iconst 2, 1) := by decide +kernel
theorem dX8_isMovable_42 : decode cX8_isMovable 42 = .ok (.aaload, 1) := by decide +kernel
theorem dX8_isMovable_43 : decode cX8_isMovable 43 = .ok (.iload_n 3, 1) := by decide +kernel
theorem dX8_isMovable_44 : decode cX8_isMovable 44 = .ok (.iaload, 1) := by decide +kernel
theorem dX8_isMovable_45 : decode cX8_isMovable 45 = .ok (.iload_n 2, 1) := by decide +kernel
theorem dX8_isMovable_46 : decode cX8_isMovable 46 = .ok (.invokestatic 79, 3) := by decide +kernel
theorem dX8_isMovable_49 : decode cX8_isMovable 49 = .ok (.ifCond .eq 7, 3) := by decide +kernel
theorem dX8_isMovable_52 : decode cX8_isMovable 52 = .ok (.iconst 1, 1) := by decide +kernel
theorem dX8_isMovable_53 : decode cX8_isMovable 53 = .ok (.goto 4, 3) := by decide +kernel
theorem dX8_isMovable_56 : decode cX8_isMovable 56 = .ok (.iconst 0, 1) := by decide +kernel
theorem dX8_isMovable_57 : decode cX8_isMovable 57 = .ok (.ireturn, 1) := by decide +kernel
theorem dX8_moveFinger_0 : decode cX8_moveFinger 0 = .ok (.aload_n 0, 1) := by decide +kernel
theorem dX8_moveFinger_1 : decode cX8_moveFinger 1 = .ok (.getfield 16, 3) := by decide +kernel
theorem dX8_moveFinger_4 : decode cX8_moveFinger 4 = .ok (.iconst 2, 1) := by decide +kernel
theorem dX8_moveFinger_5 : decode cX8_moveFinger 5 = .ok (.aaload, 1) := by decide +kernel
theorem dX8_moveFinger_6 : decode cX8_moveFinger 6 = .ok (.iload_n 1, 1) := by decide +kernel
theorem dX8_moveFinger_7 : decode cX8_moveFinger 7 = .ok (.dup2, 1) := by decide +kernel
theorem dX8_moveFinger_8 : decode cX8_moveFinger 8 = .ok (.iaload, 1) := by decide +kernel
theorem dX8_moveFinger_9 : decode cX8_moveFinger 9 = .ok (.iconst 1, 1) := by decide +kernel
theorem dX8_moveFinger_10 : decode cX8_moveFinger 10 = .ok (.iload_n 2, 1) := by decide +kernel
theorem dX8_moveFinger_11 : decode cX8_moveFinger 11 = .ok (.ishl, 1) := by decide +kernel
theorem dX8_moveFinger_12 : decode cX8_moveFinger 12 = .ok (.ixor, 1) := by decide +kernel
theorem dX8_moveFinger_13 : decode cX8_moveFinger 13 = .ok (.iastore, 1) := by decide +kernel
theorem dX8_moveFinger_14 : decode cX8_moveFinger 14 = .ok (.aload_n 0, 1) := by decide +kernel
theorem dX8_moveFinger_15 : decode cX8_moveFinger 15 = .ok (.getfield 16, 3) := by decide +kernel
theorem dX8_moveFinger_18 : decode cX8_moveFinger 18 = .ok (.iconst 2, 1) := by decide +kernel
theorem dX8_moveFinger_19 : decode cX8_moveFinger 19 = .ok (.aaload, 1) := by decide +kernel
theorem dX8_moveFinger_20 : decode cX8_moveFinger 20 = .ok (.iload_n 1, 1) := by decide +kernel
theorem dX8_moveFinger_21 : decode cX8_moveFinger 21 = .ok (.iaload, 1) := by decide +kernel
theorem dX8_moveFinger_22 : decode cX8_moveFinger 22 = .ok (.ifCond .ne 14, 3) := by decide +kernel
theorem dX8_moveFinger_25 : decode cX8_moveFinger 25 = .ok (.aload_n 0, 1) := by decide +kernel
theorem dX8_moveFinger_26 : decode cX8_moveFinger 26 = .ok (.iload_n 1, 1) := by decide +kernel
theorem dX8_moveFinger_27 : decode cX8_moveFinger 27 = .ok (.invokevirtual 85, 3) := by decide +kernel
theorem dX8_moveFinger_30 : decode cX8_moveFinger 30 = .ok (.aload_n 0, 1) := by decide +kernel
theorem dX8_moveFinger_31 : decode cX8_moveFinger 31 = .ok (.iload_n 1, 1) := by decide +kernel
theorem dX8_moveFinger_32 : decode cX8_moveFinger 32 = .ok (.aload_n 3, 1) := by decide +kernel
theorem dX8_moveFinger_33 : decode cX8_moveFinger 33 = .ok (.invokevirtual 66, 3) := by decide +kernel
theorem dX8_moveFinger_36 : decode cX8_moveFinger 36 = .ok (.return_, 1) := by decide +kernel
theorem dX8_tie_0 : decode cX8_tie 0 = .ok (.aload_n 0, 1) := by decide +kernel
theorem dX8_tie_1 : decode cX8_tie 1 = .ok (.getfield 16, 3) := by decide +kernel
theorem dX8_tie_4 : decode cX8_tie 4 = .ok (.bipush 8, 2) := by decide +kernel
theorem dX8_tie_6 : decode cX8_tie 6 = .ok (.aaload, 1) := by decide +kernel
theorem dX8_tie_7 : decode cX8_tie 7 = .ok (.iload_n 1, 1) := by decide +kernel
theorem dX8_tie_8 : decode cX8_tie 8 = .ok (.iload_n 2, 1) := by decide +kernel
theorem dX8_tie_9 : decode cX8_tie 9 = .ok (.iastore, 1) := by decide +kernel
theorem dX8_tie_10 : decode cX8_tie 10 = .ok (.aload_n 0, 1) := by decide +kernel
theorem dX8_tie_11 : decode cX8_tie 11 = .ok (.getfield 16, 3) := by decide +kernel
theorem dX8_tie_14 : decode cX8_tie 14 = .ok (.bipush 8, 2) := by decide +kernel
theorem dX8_tie_16 : decode cX8_tie 16 = .ok (.aaload, 1) := by decide +kernel
theorem dX8_tie_17 : decode cX8_tie 17 = .ok (.iload_n 2, 1) := by decide +kernel
theorem dX8_tie_18 : decode cX8_tie 18 = .ok (.iload_n 1, 1) := by decide +kernel
theorem dX8_tie_19 : decode cX8_tie 19 = .ok (.iastore, 1) := by decide +kernel
theorem dX8_tie_20 : decode cX8_tie 20 = .ok (.return_, 1) := by decide +kernel
theorem dX8_untie_0 : decode cX8_untie 0 = .ok (.aload_n 0, 1) := by decide +kernel
theorem dX8_untie_1 : decode cX8_untie 1 = .ok (.getfield 16, 3) := by decide +kernel
theorem dX8_untie_4 : decode cX8_untie 4 = .ok (.bipush 8, 2) := by decide +kernel
theorem dX8_untie_6 : decode cX8_untie 6 = .ok (.aaload, 1) := by decide +kernel
theorem dX8_untie_7 : decode cX8_untie 7 = .ok (.iload_n 1, 1) := by decide +kernel
theorem dX8_untie_8 : decode cX8_untie 8 = .ok (.iaload, 1) := by decide +kernel
theorem dX8_untie_9 : decode cX8_untie 9 = .ok (.istore_n 2, 1) := by decide +kernel
theorem dX8_untie_10 : decode cX8_untie 10 = .ok (.iload_n 2, 1) := by decide +kernel
theorem dX8_untie_11 : decode cX8_untie 11 = .ok (.iconst (-1), 1) := by decide +kernel
theorem dX8_untie_12 : decode cX8_untie 12 = .ok (.if_icmp .eq 23, 3) := by decide +kernel
theorem dX8_untie_15 : decode cX8_untie 15 = .ok (.aload_n 0, 1) := by decide +kernel
theorem dX8_untie_16 : decode cX8_untie 16 = .ok (.getfield 16, 3) := by decide +kernel
theorem dX8_untie_19 : decode cX8_untie 19 = .ok (.bipush 8, 2) := by decide +kernel
theorem dX8_untie_21 : decode cX8_untie 21 = .ok (.aaload, 1) := by decide +kernel
theorem dX8_untie_22 : decode cX8_untie 22 = .ok (.iload_n 2, 1) := by decide +kernel
theorem dX8_untie_23 : decode cX8_untie 23 = .ok (.iconst (-1), 1) := by decide +kernel
theorem dX8_untie_24 : decode cX8_untie 24 = .ok (.iastore, 1) := by decide +kernel
theorem dX8_untie_25 : decode cX8_untie 25 = .ok (.aload_n 0, 1) := by decide +kernel
theorem dX8_untie_26 : decode cX8_untie 26 = .ok (.getfield 16, 3) := by decide +kernel
theorem dX8_untie_29 : decode cX8_untie 29 = .ok (.bipush 8, 2) := by decide +kernel
theorem dX8_untie_31 : decode cX8_untie 31 = .ok (.aaload, 1) := by decide +kernel
theorem dX8_untie_32 : decode cX8_untie 32 = .ok (.iload_n 1, 1) := by decide +kernel
theorem dX8_untie_33 : decode cX8_untie 33 = .ok (.iconst (-1), 1) := by decide +kernel
theorem dX8_untie_34 : decode cX8_untie 34 = .ok (.iastore, 1) := by decide +kernel
theorem dX8_untie_35 : decode cX8_untie 35 = .ok (.return_, 1) := by decide +kernel
theorem dX8_pairOf_0 : decode cX8_pairOf 0 = .ok (.aload_n 0, 1) := by decide +kernel
theorem dX8_pairOf_1 : decode cX8_pairOf 1 = .ok (.getfield 16, 3) := by decide +kernel
theorem dX8_pairOf_4 : decode cX8_pairOf 4 = .ok (.bipush 8, 2) := by decide +kernel
theorem dX8_pairOf_6 : decode cX8_pairOf 6 = .ok (.aaload, 1) := by decide +kernel
theorem dX8_pairOf_7 : decode cX8_pairOf 7 = .ok (.iload_n 1, 1) := by decide +kernel
theorem dX8_pairOf_8 : decode cX8_pairOf 8 = .ok (.iaload, 1) := by decide +kernel
theorem dX8_pairOf_9 : decode cX8_pairOf 9 = .ok (.istore_n 2, 1) := by decide +kernel
theorem dX8_pairOf_10 : decode cX8_pairOf 10 = .ok (.iload_n 2, 1) := by decide +kernel
theorem dX8_pairOf_11 : decode cX8_pairOf 11 = .ok (.iconst (-1), 1) := by decide +kernel
theorem dX8_pairOf_12 : decode cX8_pairOf 12 = .ok (.if_icmp .ne 5, 3) := by decide +kernel
theorem dX8_pairOf_15 : decode cX8_pairOf 15 = .ok (.iconst (-1), 1) := by decide +kernel
theorem dX8_pairOf_16 : decode cX8_pairOf 16 = .ok (.ireturn, 1) := by decide +kernel
theorem dX8_pairOf_17 : decode cX8_pairOf 17 = .ok (.aload_n 0, 1) := by decide +kernel
theorem dX8_pairOf_18 : decode cX8_pairOf 18 = .ok (.getfield 16, 3) := by decide +kernel
theorem dX8_pairOf_21 : decode cX8_pairOf 21 = .ok (.iconst 2, 1) := by decide +kernel
theorem dX8_pairOf_22 : decode cX8_pairOf 22 = .ok (.aaload, 1) := by decide +kernel
theorem dX8_pairOf_23 : decode cX8_pairOf 23 = .ok (.iload_n 1, 1) := by decide +kernel
theorem dX8_pairOf_24 : decode cX8_pairOf 24 = .ok (.iload_n 2, 1) := by decide +kernel
theorem dX8_pairOf_25 : decode cX8_pairOf 25 = .ok (.invokestatic 42, 3) := by decide +kernel
theorem dX8_pairOf_28 : decode cX8_pairOf 28 = .ok (.iaload, 1) := by decide +kernel
theorem dX8_pairOf_29 : decode cX8_pairOf 29 = .ok (.aload_n 0, 1) := by decide +kernel
theorem dX8_pairOf_30 : decode cX8_pairOf 30 = .ok (.getfield 16, 3) := by decide +kernel
theorem dX8_pairOf_33 : decode cX8_pairOf 33 = .ok (.iconst 2, 1) := by decide +kernel
theorem dX8_pairOf_34 : decode cX8_pairOf 34 = .ok (.aaload, 1) := by decide +kernel
theorem dX8_pairOf_35 : decode cX8_pairOf 35 = .ok (.iload_n 1, 1) := by decide +kernel
theorem dX8_pairOf_36 : decode cX8_pairOf 36 = .ok (.iload_n 2, 1) := by decide +kernel
theorem dX8_pairOf_37 : decode cX8_pairOf 37 = .ok (.invokestatic 89, 3) := by decide +kernel
theorem dX8_pairOf_40 : decode cX8_pairOf 40 = .ok (.iaload, 1) := by decide +kernel
theorem dX8_pairOf_41 : decode cX8_pairOf 41 = .ok (.iconst 5, 1) := by decide +kernel
theorem dX8_pairOf_42 : decode cX8_pairOf 42 = .ok (.ishl, 1) := by decide +kernel
theorem dX8_pairOf_43 : decode cX8_pairOf 43 = .ok (.ior, 1) := by decide +kernel
theorem dX8_pairOf_44 : decode cX8_pairOf 44 = .ok (.ireturn, 1) := by decide +kernel
theorem dX8_everyone_0 : decode cX8_everyone 0 = .ok (.iconst 1, 1) := by decide +kernel
theorem dX8_everyone_1 : decode cX8_everyone 1 = .ok (.aload_n 0, 1) := by decide +kernel
theorem dX8_everyone_2 : decode cX8_everyone 2 = .ok (.getfield 22, 3) := by decide +kernel
theorem dX8_everyone_5 : decode cX8_everyone 5 = .ok (.ishl, 1) := by decide +kernel
theorem dX8_everyone_6 : decode cX8_everyone 6 = .ok (.iconst 1, 1) := by decide +kernel
theorem dX8_everyone_7 : decode cX8_everyone 7 = .ok (.isub, 1) := by decide +kernel
theorem dX8_everyone_8 : decode cX8_everyone 8 = .ok (.ireturn, 1) := by decide +kernel
theorem dX8_bitsOf_0 : decode cX8_bitsOf 0 = .ok (.iconst 0, 1) := by decide +kernel
theorem dX8_bitsOf_1 : decode cX8_bitsOf 1 = .ok (.istore_n 3, 1) := by decide +kernel
theorem dX8_bitsOf_2 : decode cX8_bitsOf 2 = .ok (.iconst 0, 1) := by decide +kernel
theorem dX8_bitsOf_3 : decode cX8_bitsOf 3 = .ok (.istore 4, 2) := by decide +kernel
theorem dX8_bitsOf_5 : decode cX8_bitsOf 5 = .ok (.iload 4, 2) := by decide +kernel
theorem dX8_bitsOf_7 : decode cX8_bitsOf 7 = .ok (.aload_n 0, 1) := by decide +kernel
theorem dX8_bitsOf_8 : decode cX8_bitsOf 8 = .ok (.getfield 22, 3) := by decide +kernel
theorem dX8_bitsOf_11 : decode cX8_bitsOf 11 = .ok (.if_icmp .ge 29, 3) := by decide +kernel
theorem dX8_bitsOf_14 : decode cX8_bitsOf 14 = .ok (.aload_n 0, 1) := by decide +kernel
theorem dX8_bitsOf_15 : decode cX8_bitsOf 15 = .ok (.getfield 16, 3) := by decide +kernel
theorem dX8_bitsOf_18 : decode cX8_bitsOf 18 = .ok (.iload_n 1, 1) := by decide +kernel
theorem dX8_bitsOf_19 : decode cX8_bitsOf 19 = .ok (.aaload, 1) := by decide +kernel
theorem dX8_bitsOf_20 : decode cX8_bitsOf 20 = .ok (.iload 4, 2) := by decide +kernel
theorem dX8_bitsOf_22 : decode cX8_bitsOf 22 = .ok (.iaload, 1) := by decide +kernel
theorem dX8_bitsOf_23 : decode cX8_bitsOf 23 = .ok (.iload_n 2, 1) := by decide +kernel
theorem dX8_bitsOf_24 : decode cX8_bitsOf 24 = .ok (.if_icmp .ne 10, 3) := by decide +kernel
theorem dX8_bitsOf_27 : decode cX8_bitsOf 27 = .ok (.iload_n 3, 1) := by decide +kernel
theorem dX8_bitsOf_28 : decode cX8_bitsOf 28 = .ok (.iconst 1, 1) := by decide +kernel
theorem dX8_bitsOf_29 : decode cX8_bitsOf 29 = .ok (.iload 4, 2) := by decide +kernel
theorem dX8_bitsOf_31 : decode cX8_bitsOf 31 = .ok (.ishl, 1) := by decide +kernel
theorem dX8_bitsOf_32 : decode cX8_bitsOf 32 = .ok (.ior, 1) := by decide +kernel
theorem dX8_bitsOf_33 : decode cX8_bitsOf 33 = .ok (.istore_n 3, 1) := by decide +kernel
theorem dX8_bitsOf_34 : decode cX8_bitsOf 34 = .ok (.iinc 4 1, 3) := by decide +kernel
theorem dX8_bitsOf_37 : decode cX8_bitsOf 37 = .ok (.goto (-32), 3) := by decide +kernel
theorem dX8_bitsOf_40 : decode cX8_bitsOf 40 = .ok (.iload_n 3, 1) := by decide +kernel
theorem dX8_bitsOf_41 : decode cX8_bitsOf 41 = .ok (.ireturn, 1) := by decide +kernel
theorem dX8_howMany_0 : decode cX8_howMany 0 = .ok (.aload_n 0, 1) := by decide +kernel
theorem dX8_howMany_1 : decode cX8_howMany 1 = .ok (.iload_n 1, 1) := by decide +kernel
theorem dX8_howMany_2 : decode cX8_howMany 2 = .ok (.iload_n 2, 1) := by decide +kernel
theorem dX8_howMany_3 : decode cX8_howMany 3 = .ok (.invokevirtual 92, 3) := by decide +kernel
theorem dX8_howMany_6 : decode cX8_howMany 6 = .ok (.invokestatic 95, 3) := by decide +kernel
theorem dX8_howMany_9 : decode cX8_howMany 9 = .ok (.ireturn, 1) := by decide +kernel
theorem dX8_allWeights_0 : decode cX8_allWeights 0 = .ok (.iconst 0, 1) := by decide +kernel
theorem dX8_allWeights_1 : decode cX8_allWeights 1 = .ok (.istore_n 1, 1) := by decide +kernel
theorem dX8_allWeights_2 : decode cX8_allWeights 2 = .ok (.iconst 0, 1) := by decide +kernel
theorem dX8_allWeights_3 : decode cX8_allWeights 3 = .ok (.istore_n 2, 1) := by decide +kernel
theorem dX8_allWeights_4 : decode cX8_allWeights 4 = .ok (.iload_n 2, 1) := by decide +kernel
theorem dX8_allWeights_5 : decode cX8_allWeights 5 = .ok (.bipush 8, 2) := by decide +kernel
theorem dX8_allWeights_7 : decode cX8_allWeights 7 = .ok (.if_icmp .gt 20, 3) := by decide +kernel
theorem dX8_allWeights_10 : decode cX8_allWeights 10 = .ok (.iload_n 1, 1) := by decide +kernel
theorem dX8_allWeights_11 : decode cX8_allWeights 11 = .ok (.aload_n 0, 1) := by decide +kernel
theorem dX8_allWeights_12 : decode cX8_allWeights 12 = .ok (.getfield 11, 3) := by decide +kernel
theorem dX8_allWeights_15 : decode cX8_allWeights 15 = .ok (.iconst 0, 1) := by decide +kernel
theorem dX8_allWeights_16 : decode cX8_allWeights 16 = .ok (.aaload, 1) := by decide +kernel
theorem dX8_allWeights_17 : decode cX8_allWeights 17 = .ok (.iload_n 2, 1) := by decide +kernel
theorem dX8_allWeights_18 : decode cX8_allWeights 18 = .ok (.iaload, 1) := by decide +kernel
theorem dX8_allWeights_19 : decode cX8_allWeights 19 = .ok (.iadd, 1) := by decide +kernel
theorem dX8_allWeights_20 : decode cX8_allWeights 20 = .ok (.istore_n 1, 1) := by decide +kernel
theorem dX8_allWeights_21 : decode cX8_allWeights 21 = .ok (.iinc 2 1, 3) := by decide +kernel
theorem dX8_allWeights_24 : decode cX8_allWeights 24 = .ok (.goto (-20), 3) := by decide +kernel
theorem dX8_allWeights_27 : decode cX8_allWeights 27 = .ok (.iload_n 1, 1) := by decide +kernel
theorem dX8_allWeights_28 : decode cX8_allWeights 28 = .ok (.ireturn, 1) := by decide +kernel
theorem dX8_allFate_0 : decode cX8_allFate 0 = .ok (.iconst 0, 1) := by decide +kernel
theorem dX8_allFate_1 : decode cX8_allFate 1 = .ok (.istore_n 1, 1) := by decide +kernel
theorem dX8_allFate_2 : decode cX8_allFate 2 = .ok (.iconst 0, 1) := by decide +kernel
theorem dX8_allFate_3 : decode cX8_allFate 3 = .ok (.istore_n 2, 1) := by decide +kernel
theorem dX8_allFate_4 : decode cX8_allFate 4 = .ok (.iload_n 2, 1) := by decide +kernel
theorem dX8_allFate_5 : decode cX8_allFate 5 = .ok (.aload_n 0, 1) := by decide +kernel
theorem dX8_allFate_6 : decode cX8_allFate 6 = .ok (.getfield 22, 3) := by decide +kernel
theorem dX8_allFate_9 : decode cX8_allFate 9 = .ok (.if_icmp .ge 21, 3) := by decide +kernel
theorem dX8_allFate_12 : decode cX8_allFate 12 = .ok (.iload_n 1, 1) := by decide +kernel
theorem dX8_allFate_13 : decode cX8_allFate 13 = .ok (.aload_n 0, 1) := by decide +kernel
theorem dX8_allFate_14 : decode cX8_allFate 14 = .ok (.getfield 16, 3) := by decide +kernel
theorem dX8_allFate_17 : decode cX8_allFate 17 = .ok (.bipush 6, 2) := by decide +kernel
theorem dX8_allFate_19 : decode cX8_allFate 19 = .ok (.aaload, 1) := by decide +kernel
theorem dX8_allFate_20 : decode cX8_allFate 20 = .ok (.iload_n 2, 1) := by decide +kernel
theorem dX8_allFate_21 : decode cX8_allFate 21 = .ok (.iaload, 1) := by decide +kernel
theorem dX8_allFate_22 : decode cX8_allFate 22 = .ok (.iadd, 1) := by decide +kernel
theorem dX8_allFate_23 : decode cX8_allFate 23 = .ok (.istore_n 1, 1) := by decide +kernel
theorem dX8_allFate_24 : decode cX8_allFate 24 = .ok (.iinc 2 1, 3) := by decide +kernel
theorem dX8_allFate_27 : decode cX8_allFate 27 = .ok (.goto (-23), 3) := by decide +kernel
theorem dX8_allFate_30 : decode cX8_allFate 30 = .ok (.iload_n 1, 1) := by decide +kernel
theorem dX8_allFate_31 : decode cX8_allFate 31 = .ok (.ireturn, 1) := by decide +kernel
theorem dX8_allShut_0 : decode cX8_allShut 0 = .ok (.iconst 0, 1) := by decide +kernel
theorem dX8_allShut_1 : decode cX8_allShut 1 = .ok (.istore_n 1, 1) := by decide +kernel
theorem dX8_allShut_2 : decode cX8_allShut 2 = .ok (.iconst 0, 1) := by decide +kernel
theorem dX8_allShut_3 : decode cX8_allShut 3 = .ok (.istore_n 2, 1) := by decide +kernel
theorem dX8_allShut_4 : decode cX8_allShut 4 = .ok (.iload_n 2, 1) := by decide +kernel
theorem dX8_allShut_5 : decode cX8_allShut 5 = .ok (.aload_n 0, 1) := by decide +kernel
theorem dX8_allShut_6 : decode cX8_allShut 6 = .ok (.getfield 22, 3) := by decide +kernel
theorem dX8_allShut_9 : decode cX8_allShut 9 = .ok (.if_icmp .ge 23, 3) := by decide +kernel
theorem dX8_allShut_12 : decode cX8_allShut 12 = .ok (.iload_n 1, 1) := by decide +kernel
theorem dX8_allShut_13 : decode cX8_allShut 13 = .ok (.aload_n 0, 1) := by decide +kernel
theorem dX8_allShut_14 : decode cX8_allShut 14 = .ok (.getfield 16, 3) := by decide +kernel
theorem dX8_allShut_17 : decode cX8_allShut 17 = .ok (.iconst 2, 1) := by decide +kernel
theorem dX8_allShut_18 : decode cX8_allShut 18 = .ok (.aaload, 1) := by decide +kernel
theorem dX8_allShut_19 : decode cX8_allShut 19 = .ok (.iload_n 2, 1) := by decide +kernel
theorem dX8_allShut_20 : decode cX8_allShut 20 = .ok (.iaload, 1) := by decide +kernel
theorem dX8_allShut_21 : decode cX8_allShut 21 = .ok (.invokestatic 95, 3) := by decide +kernel
theorem dX8_allShut_24 : decode cX8_allShut 24 = .ok (.iadd, 1) := by decide +kernel
theorem dX8_allShut_25 : decode cX8_allShut 25 = .ok (.istore_n 1, 1) := by decide +kernel
theorem dX8_allShut_26 : decode cX8_allShut 26 = .ok (.iinc 2 1, 3) := by decide +kernel
theorem dX8_allShut_29 : decode cX8_allShut 29 = .ok (.goto (-25), 3) := by decide +kernel
theorem dX8_allShut_32 : decode cX8_allShut 32 = .ok (.iload_n 1, 1) := by decide +kernel
theorem dX8_allShut_33 : decode cX8_allShut 33 = .ok (.ireturn, 1) := by decide +kernel
theorem dX8_price_0 : decode cX8_price 0 = .ok (.aload_n 0, 1) := by decide +kernel
theorem dX8_price_1 : decode cX8_price 1 = .ok (.getfield 11, 3) := by decide +kernel
theorem dX8_price_4 : decode cX8_price 4 = .ok (.iconst 3, 1) := by decide +kernel
theorem dX8_price_5 : decode cX8_price 5 = .ok (.aaload, 1) := by decide +kernel
theorem dX8_price_6 : decode cX8_price 6 = .ok (.iload_n 1, 1) := by decide +kernel
theorem dX8_price_7 : decode cX8_price 7 = .ok (.iaload, 1) := by decide +kernel
theorem dX8_price_8 : decode cX8_price 8 = .ok (.aload_n 0, 1) := by decide +kernel
theorem dX8_price_9 : decode cX8_price 9 = .ok (.iconst 4, 1) := by decide +kernel
theorem dX8_price_10 : decode cX8_price 10 = .ok (.iload_n 1, 1) := by decide +kernel
theorem dX8_price_11 : decode cX8_price 11 = .ok (.invokevirtual 101, 3) := by decide +kernel
theorem dX8_price_14 : decode cX8_price 14 = .ok (.imul, 1) := by decide +kernel
theorem dX8_price_15 : decode cX8_price 15 = .ok (.iconst 1, 1) := by decide +kernel
theorem dX8_price_16 : decode cX8_price 16 = .ok (.aload_n 0, 1) := by decide +kernel
theorem dX8_price_17 : decode cX8_price 17 = .ok (.iconst 5, 1) := by decide +kernel
theorem dX8_price_18 : decode cX8_price 18 = .ok (.iload_n 1, 1) := by decide +kernel
theorem dX8_price_19 : decode cX8_price 19 = .ok (.invokevirtual 101, 3) := by decide +kernel
theorem dX8_price_22 : decode cX8_price 22 = .ok (.iadd, 1) := by decide +kernel
theorem dX8_price_23 : decode cX8_price 23 = .ok (.idiv, 1) := by decide +kernel
theorem dX8_price_24 : decode cX8_price 24 = .ok (.ireturn, 1) := by decide +kernel
theorem dX8_share_0 : decode cX8_share 0 = .ok (.aload_n 0, 1) := by decide +kernel
theorem dX8_share_1 : decode cX8_share 1 = .ok (.invokevirtual 104, 3) := by decide +kernel
theorem dX8_share_4 : decode cX8_share 4 = .ok (.istore_n 2, 1) := by decide +kernel
theorem dX8_share_5 : decode cX8_share 5 = .ok (.iload_n 2, 1) := by decide +kernel
theorem dX8_share_6 : decode cX8_share 6 = .ok (.ifCond .le 20, 3) := by decide +kernel
theorem dX8_share_9 : decode cX8_share 9 = .ok (.aload_n 0, 1) := by decide +kernel
theorem dX8_share_10 : decode cX8_share 10 = .ok (.getfield 16, 3) := by decide +kernel
theorem dX8_share_13 : decode cX8_share 13 = .ok (.bipush 6, 2) := by decide +kernel
theorem dX8_share_15 : decode cX8_share 15 = .ok (.aaload, 1) := by decide +kernel
theorem dX8_share_16 : decode cX8_share 16 = .ok (.iload_n 1, 1) := by decide +kernel
theorem dX8_share_17 : decode cX8_share 17 = .ok (.iaload, 1) := by decide +kernel
theorem dX8_share_18 : decode cX8_share 18 = .ok (.bipush 100, 2) := by decide +kernel
theorem dX8_share_20 : decode cX8_share 20 = .ok (.imul, 1) := by decide +kernel
theorem dX8_share_21 : decode cX8_share 21 = .ok (.iload_n 2, 1) := by decide +kernel
theorem dX8_share_22 : decode cX8_share 22 = .ok (.idiv, 1) := by decide +kernel
theorem dX8_share_23 : decode cX8_share 23 = .ok (.goto 4, 3) := by decide +kernel
theorem dX8_share_26 : decode cX8_share 26 = .ok (.iconst 0, 1) := by decide +kernel
theorem dX8_share_27 : decode cX8_share 27 = .ok (.ireturn, 1) := by decide +kernel
theorem dX8_worthKept_0 : decode cX8_worthKept 0 = .ok (.aload_n 0, 1) := by decide +kernel
theorem dX8_worthKept_1 : decode cX8_worthKept 1 = .ok (.getfield 16, 3) := by decide +kernel
theorem dX8_worthKept_4 : decode cX8_worthKept 4 = .ok (.iconst 5, 1) := by decide +kernel
theorem dX8_worthKept_5 : decode cX8_worthKept 5 = .ok (.aaload, 1) := by decide +kernel
theorem dX8_worthKept_6 : decode cX8_worthKept 6 = .ok (.iload_n 1, 1) := by decide +kernel
theorem dX8_worthKept_7 : decode cX8_worthKept 7 = .ok (.iaload, 1) := by decide +kernel
theorem dX8_worthKept_8 : decode cX8_worthKept 8 = .ok (.istore_n 2, 1) := by decide +kernel
theorem dX8_worthKept_9 : decode cX8_worthKept 9 = .ok (.iload_n 2, 1) := by decide +kernel
theorem dX8_worthKept_10 : decode cX8_worthKept 10 = .ok (.iconst (-1), 1) := by decide +kernel
theorem dX8_worthKept_11 : decode cX8_worthKept 11 = .ok (.if_icmp .ne 7, 3) := by decide +kernel
theorem dX8_worthKept_14 : decode cX8_worthKept 14 = .ok (.iconst (-1), 1) := by decide +kernel
theorem dX8_worthKept_15 : decode cX8_worthKept 15 = .ok (.goto 11, 3) := by decide +kernel
theorem dX8_worthKept_18 : decode cX8_worthKept 18 = .ok (.aload_n 0, 1) := by decide +kernel
theorem dX8_worthKept_19 : decode cX8_worthKept 19 = .ok (.getfield 11, 3) := by decide +kernel
theorem dX8_worthKept_22 : decode cX8_worthKept 22 = .ok (.iconst 3, 1) := by decide +kernel
theorem dX8_worthKept_23 : decode cX8_worthKept 23 = .ok (.aaload, 1) := by decide +kernel
theorem dX8_worthKept_24 : decode cX8_worthKept 24 = .ok (.iload_n 2, 1) := by decide +kernel
theorem dX8_worthKept_25 : decode cX8_worthKept 25 = .ok (.iaload, 1) := by decide +kernel
theorem dX8_worthKept_26 : decode cX8_worthKept 26 = .ok (.ireturn, 1) := by decide +kernel
theorem dX8_latestRowOf_0 : decode cX8_latestRowOf 0 = .ok (.aload_n 0, 1) := by decide +kernel
theorem dX8_latestRowOf_1 : decode cX8_latestRowOf 1 = .ok (.getfield 26, 3) := by decide +kernel
theorem dX8_latestRowOf_4 : decode cX8_latestRowOf 4 = .ok (.iconst 1, 1) := by decide +kernel
theorem dX8_latestRowOf_5 : decode cX8_latestRowOf 5 = .ok (.isub, 1) := by decide +kernel
theorem dX8_latestRowOf_6 : decode cX8_latestRowOf 6 = .ok (.istore_n 2, 1) := by decide +kernel
theorem dX8_latestRowOf_7 : decode cX8_latestRowOf 7 = .ok (.iload_n 2, 1) := by decide +kernel
theorem dX8_latestRowOf_8 : decode cX8_latestRowOf 8 = .ok (.ifCond .lt 23, 3) := by decide +kernel
theorem dX8_latestRowOf_11 : decode cX8_latestRowOf 11 = .ok (.aload_n 0, 1) := by decide +kernel
theorem dX8_latestRowOf_12 : decode cX8_latestRowOf 12 = .ok (.getfield 19, 3) := by decide +kernel
theorem dX8_latestRowOf_15 : decode cX8_latestRowOf 15 = .ok (.iconst 1, 1) := by decide +kernel
theorem dX8_latestRowOf_16 : decode cX8_latestRowOf 16 = .ok (.aaload, 1) := by decide +kernel
theorem dX8_latestRowOf_17 : decode cX8_latestRowOf 17 = .ok (.iload_n 2, 1) := by decide +kernel
theorem dX8_latestRowOf_18 : decode cX8_latestRowOf 18 = .ok (.iaload, 1) := by decide +kernel
theorem dX8_latestRowOf_19 : decode cX8_latestRowOf 19 = .ok (.iload_n 1, 1) := by decide +kernel
theorem dX8_latestRowOf_20 : decode cX8_latestRowOf 20 = .ok (.if_icmp .ne 5, 3) := by decide +kernel
theorem dX8_latestRowOf_23 : decode cX8_latestRowOf 23 = .ok (.iload_n 2, 1) := by decide +kernel
theorem dX8_latestRowOf_24 : decode cX8_latestRowOf 24 = .ok (.ireturn, 1) := by decide +kernel
theorem dX8_latestRowOf_25 : decode cX8_latestRowOf 25 = .ok (.iinc 2 (-1), 3) := by decide +kernel
theorem dX8_latestRowOf_28 : decode cX8_latestRowOf 28 = .ok (.goto (-21), 3) := by decide +kernel
theorem dX8_latestRowOf_31 : decode cX8_latestRowOf 31 = .ok (.iconst (-1), 1) := by decide +kernel
theorem dX8_latestRowOf_32 : decode cX8_latestRowOf 32 = .ok (.ireturn, 1) := by decide +kernel
theorem dX9_init_0 : decode cX9_init 0 = .ok (.aload_n 0, 1) := by decide +kernel
theorem dX9_init_1 : decode cX9_init 1 = .ok (.invokespecial 3, 3) := by decide +kernel
theorem dX9_init_4 : decode cX9_init 4 = .ok (.aload_n 0, 1) := by decide +kernel
theorem dX9_init_5 : decode cX9_init 5 = .ok (.sipush 400, 3) := by decide +kernel
theorem dX9_init_8 : decode cX9_init 8 = .ok (.newarray .int, 2) := by decide +kernel
theorem dX9_init_10 : decode cX9_init 10 = .ok (.putfield 9, 3) := by decide +kernel
theorem dX9_init_13 : decode cX9_init 13 = .ok (.aload_n 0, 1) := by decide +kernel
theorem dX9_init_14 : decode cX9_init 14 = .ok (.iconst 0, 1) := by decide +kernel
theorem dX9_init_15 : decode cX9_init 15 = .ok (.putfield 15, 3) := by decide +kernel
theorem dX9_init_18 : decode cX9_init 18 = .ok (.aload_n 0, 1) := by decide +kernel
theorem dX9_init_19 : decode cX9_init 19 = .ok (.iconst 0, 1) := by decide +kernel
theorem dX9_init_20 : decode cX9_init 20 = .ok (.putfield 19, 3) := by decide +kernel
theorem dX9_init_23 : decode cX9_init 23 = .ok (.return_, 1) := by decide +kernel
theorem dX9_put_0 : decode cX9_put 0 = .ok (.bipush 24, 2) := by decide +kernel
theorem dX9_put_2 : decode cX9_put 2 = .ok (.istore_n 2, 1) := by decide +kernel
theorem dX9_put_3 : decode cX9_put 3 = .ok (.iload_n 2, 1) := by decide +kernel
theorem dX9_put_4 : decode cX9_put 4 = .ok (.ifCond .lt 45, 3) := by decide +kernel
theorem dX9_put_7 : decode cX9_put 7 = .ok (.aload_n 0, 1) := by decide +kernel
theorem dX9_put_8 : decode cX9_put 8 = .ok (.getfield 15, 3) := by decide +kernel
theorem dX9_put_11 : decode cX9_put 11 = .ok (.sipush 400, 3) := by decide +kernel
theorem dX9_put_14 : decode cX9_put 14 = .ok (.if_icmp .ge 35, 3) := by decide +kernel
theorem dX9_put_17 : decode cX9_put 17 = .ok (.aload_n 0, 1) := by decide +kernel
theorem dX9_put_18 : decode cX9_put 18 = .ok (.getfield 9, 3) := by decide +kernel
theorem dX9_put_21 : decode cX9_put 21 = .ok (.aload_n 0, 1) := by decide +kernel
theorem dX9_put_22 : decode cX9_put 22 = .ok (.getfield 15, 3) := by decide +kernel
theorem dX9_put_25 : decode cX9_put 25 = .ok (.iload_n 1, 1) := by decide +kernel
theorem dX9_put_26 : decode cX9_put 26 = .ok (.iload_n 2, 1) := by decide +kernel
theorem dX9_put_27 : decode cX9_put 27 = .ok (.iushr, 1) := by decide +kernel
theorem dX9_put_28 : decode cX9_put 28 = .ok (.sipush 255, 3) := by decide +kernel
theorem dX9_put_31 : decode cX9_put 31 = .ok (.iand, 1) := by decide +kernel
theorem dX9_put_32 : decode cX9_put 32 = .ok (.iastore, 1) := by decide +kernel
theorem dX9_put_33 : decode cX9_put 33 = .ok (.aload_n 0, 1) := by decide +kernel
theorem dX9_put_34 : decode cX9_put 34 = .ok (.dup, 1) := by decide +kernel
theorem dX9_put_35 : decode cX9_put 35 = .ok (.getfield 15, 3) := by decide +kernel
theorem dX9_put_38 : decode cX9_put 38 = .ok (.iconst 1, 1) := by decide +kernel
theorem dX9_put_39 : decode cX9_put 39 = .ok (.iadd, 1) := by decide +kernel
theorem dX9_put_40 : decode cX9_put 40 = .ok (.putfield 15, 3) := by decide +kernel
theorem dX9_put_43 : decode cX9_put 43 = .ok (.iinc 2 (-8), 3) := by decide +kernel
theorem dX9_put_46 : decode cX9_put 46 = .ok (.goto (-43), 3) := by decide +kernel
theorem dX9_put_49 : decode cX9_put 49 = .ok (.return_, 1) := by decide +kernel
theorem dX9_takeRows_0 : decode cX9_takeRows 0 = .ok (.aload_n 0, 1) := by decide +kernel
theorem dX9_takeRows_1 : decode cX9_takeRows 1 = .ok (.getfield 15, 3) := by decide +kernel
theorem dX9_takeRows_4 : decode cX9_takeRows 4 = .ok (.iconst 2, 1) := by decide +kernel
theorem dX9_takeRows_5 : decode cX9_takeRows 5 = .ok (.irem, 1) := by decide +kernel
theorem dX9_takeRows_6 : decode cX9_takeRows 6 = .ok (.ifCond .ne 16, 3) := by decide +kernel
theorem dX9_takeRows_9 : decode cX9_takeRows 9 = .ok (.aload_n 0, 1) := by decide +kernel
theorem dX9_takeRows_10 : decode cX9_takeRows 10 = .ok (.getfield 15, 3) := by decide +kernel
theorem dX9_takeRows_13 : decode cX9_takeRows 13 = .ok (.bipush 40, 2) := by decide +kernel
theorem dX9_takeRows_15 : decode cX9_takeRows 15 = .ok (.if_icmp .gt 7, 3) := by decide +kernel
theorem dX9_takeRows_18 : decode cX9_takeRows 18 = .ok (.iconst 1, 1) := by decide +kernel
theorem dX9_takeRows_19 : decode cX9_takeRows 19 = .ok (.goto 4, 3) := by decide +kernel
theorem dX9_takeRows_22 : decode cX9_takeRows 22 = .ok (.iconst 0, 1) := by decide +kernel
theorem dX9_takeRows_23 : decode cX9_takeRows 23 = .ok (.istore_n 3, 1) := by decide +kernel
theorem dX9_takeRows_24 : decode cX9_takeRows 24 = .ok (.iload_n 3, 1) := by decide +kernel
theorem dX9_takeRows_25 : decode cX9_takeRows 25 = .ok (.ifCond .eq 12, 3) := by decide +kernel
theorem dX9_takeRows_28 : decode cX9_takeRows 28 = .ok (.aload_n 0, 1) := by decide +kernel
theorem dX9_takeRows_29 : decode cX9_takeRows 29 = .ok (.getfield 15, 3) := by decide +kernel
theorem dX9_takeRows_32 : decode cX9_takeRows 32 = .ok (.iconst 2, 1) := by decide +kernel
theorem dX9_takeRows_33 : decode cX9_takeRows 33 = .ok (.idiv, 1) := by decide +kernel
theorem dX9_takeRows_34 : decode cX9_takeRows 34 = .ok (.goto 4, 3) := by decide +kernel
theorem dX9_takeRows_37 : decode cX9_takeRows 37 = .ok (.iconst 0, 1) := by decide +kernel
theorem dX9_takeRows_38 : decode cX9_takeRows 38 = .ok (.istore 4, 2) := by decide +kernel
theorem dX9_takeRows_40 : decode cX9_takeRows 40 = .ok (.iconst 0, 1) := by decide +kernel
theorem dX9_takeRows_41 : decode cX9_takeRows 41 = .ok (.istore 5, 2) := by decide +kernel
theorem dX9_takeRows_43 : decode cX9_takeRows 43 = .ok (.iload 5, 2) := by decide +kernel
theorem dX9_takeRows_45 : decode cX9_takeRows 45 = .ok (.iload 4, 2) := by decide +kernel
theorem dX9_takeRows_47 : decode cX9_takeRows 47 = .ok (.if_icmp .ge 39, 3) := by decide +kernel
theorem dX9_takeRows_50 : decode cX9_takeRows 50 = .ok (.iload_n 3, 1) := by decide +kernel
theorem dX9_takeRows_51 : decode cX9_takeRows 51 = .ok (.ifCond .eq 27, 3) := by decide +kernel
theorem dX9_takeRows_54 : decode cX9_takeRows 54 = .ok (.aload_n 0, 1) := by decide +kernel
theorem dX9_takeRows_55 : decode cX9_takeRows 55 = .ok (.iload 5, 2) := by decide +kernel
theorem dX9_takeRows_57 : decode cX9_takeRows 57 = .ok (.invokevirtual 22, 3) := by decide +kernel
theorem dX9_takeRows_60 : decode cX9_takeRows 60 = .ok (.iload_n 1, 1) := by decide +kernel
theorem dX9_takeRows_61 : decode cX9_takeRows 61 = .ok (.if_icmp .gt 17, 3) := by decide +kernel
theorem dX9_takeRows_64 : decode cX9_takeRows 64 = .ok (.aload_n 0, 1) := by decide +kernel
theorem dX9_takeRows_65 : decode cX9_takeRows 65 = .ok (.iload 5, 2) := by decide +kernel
theorem dX9_takeRows_67 : decode cX9_takeRows 67 = .ok (.invokevirtual 26, 3) := by decide +kernel
theorem dX9_takeRows_70 : decode cX9_takeRows 70 = .ok (.iload_n 2, 1) := by decide +kernel
theorem dX9_takeRows_71 : decode cX9_takeRows 71 = .ok (.if_icmp .gt 7, 3) := by decide +kernel
theorem dX9_takeRows_74 : decode cX9_takeRows 74 = .ok (.iconst 1, 1) := by decide +kernel
theorem dX9_takeRows_75 : decode cX9_takeRows 75 = .ok (.goto 4, 3) := by decide +kernel
theorem dX9_takeRows_78 : decode cX9_takeRows 78 = .ok (.iconst 0, 1) := by decide +kernel
theorem dX9_takeRows_79 : decode cX9_takeRows 79 = .ok (.istore_n 3, 1) := by decide +kernel
theorem dX9_takeRows_80 : decode cX9_takeRows 80 = .ok (.iinc 5 1, 3) := by decide +kernel
theorem dX9_takeRows_83 : decode cX9_takeRows 83 = .ok (.goto (-40), 3) := by decide +kernel
theorem dX9_takeRows_86 : decode cX9_takeRows 86 = .ok (.aload_n 0, 1) := by decide +kernel
theorem dX9_takeRows_87 : decode cX9_takeRows 87 = .ok (.iload_n 3, 1) := by decide +kernel
theorem dX9_takeRows_88 : decode cX9_takeRows 88 = .ok (.ifCond .eq 8, 3) := by decide +kernel
theorem dX9_takeRows_91 : decode cX9_takeRows 91 = .ok (.iload 4, 2) := by decide +kernel
theorem dX9_takeRows_93 : decode cX9_takeRows 93 = .ok (.goto 4, 3) := by decide +kernel
theorem dX9_takeRows_96 : decode cX9_takeRows 96 = .ok (.iconst 0, 1) := by decide +kernel
theorem dX9_takeRows_97 : decode cX9_takeRows 97 = .ok (.putfield 19, 3) := by decide +kernel
theorem dX9_takeRows_100 : decode cX9_takeRows 100 = .ok (.aload_n 0, 1) := by decide +kernel
theorem dX9_takeRows_101 : decode cX9_takeRows 101 = .ok (.iconst 0, 1) := by decide +kernel
theorem dX9_takeRows_102 : decode cX9_takeRows 102 = .ok (.putfield 15, 3) := by decide +kernel
theorem dX9_takeRows_105 : decode cX9_takeRows 105 = .ok (.iload_n 3, 1) := by decide +kernel
theorem dX9_takeRows_106 : decode cX9_takeRows 106 = .ok (.ireturn, 1) := by decide +kernel
theorem dX9_left_0 : decode cX9_left 0 = .ok (.aload_n 0, 1) := by decide +kernel
theorem dX9_left_1 : decode cX9_left 1 = .ok (.getfield 9, 3) := by decide +kernel
theorem dX9_left_4 : decode cX9_left 4 = .ok (.iconst 2, 1) := by decide +kernel
theorem dX9_left_5 : decode cX9_left 5 = .ok (.iload_n 1, 1) := by decide +kernel
theorem dX9_left_6 : decode cX9_left 6 = .ok (.imul, 1) := by decide +kernel
theorem dX9_left_7 : decode cX9_left 7 = .ok (.iaload, 1) := by decide +kernel
theorem dX9_left_8 : decode cX9_left 8 = .ok (.ireturn, 1) := by decide +kernel
theorem dX9_right_0 : decode cX9_right 0 = .ok (.aload_n 0, 1) := by decide +kernel
theorem dX9_right_1 : decode cX9_right 1 = .ok (.getfield 9, 3) := by decide +kernel
theorem dX9_right_4 : decode cX9_right 4 = .ok (.iconst 2, 1) := by decide +kernel
theorem dX9_right_5 : decode cX9_right 5 = .ok (.iload_n 1, 1) := by decide +kernel
theorem dX9_right_6 : decode cX9_right 6 = .ok (.imul, 1) := by decide +kernel
theorem dX9_right_7 : decode cX9_right 7 = .ok (.iconst 1, 1) := by decide +kernel
theorem dX9_right_8 : decode cX9_right 8 = .ok (.iadd, 1) := by decide +kernel
theorem dX9_right_9 : decode cX9_right 9 = .ok (.iaload, 1) := by decide +kernel
theorem dX9_right_10 : decode cX9_right 10 = .ok (.ireturn, 1) := by decide +kernel
theorem dX10_init_0 : decode cX10_init 0 = .ok (.aload_n 0, 1) := by decide +kernel
theorem dX10_init_1 : decode cX10_init 1 = .ok (.invokespecial 5, 3) := by decide +kernel
theorem dX10_init_4 : decode cX10_init 4 = .ok (.aload_n 0, 1) := by decide +kernel
theorem dX10_init_5 : decode cX10_init 5 = .ok (.sipush 401, 3) := by decide +kernel
theorem dX10_init_8 : decode cX10_init 8 = .ok (.newarray .int, 2) := by decide +kernel
theorem dX10_init_10 : decode cX10_init 10 = .ok (.putfield 11, 3) := by decide +kernel
theorem dX10_init_13 : decode cX10_init 13 = .ok (.aload_n 0, 1) := by decide +kernel
theorem dX10_init_14 : decode cX10_init 14 = .ok (.sipush 401, 3) := by decide +kernel
theorem dX10_init_17 : decode cX10_init 17 = .ok (.newarray .int, 2) := by decide +kernel
theorem dX10_init_19 : decode cX10_init 19 = .ok (.putfield 15, 3) := by decide +kernel
theorem dX10_init_22 : decode cX10_init 22 = .ok (.aload_n 0, 1) := by decide +kernel
theorem dX10_init_23 : decode cX10_init 23 = .ok (.iconst 0, 1) := by decide +kernel
theorem dX10_init_24 : decode cX10_init 24 = .ok (.putfield 18, 3) := by decide +kernel
theorem dX10_init_27 : decode cX10_init 27 = .ok (.aload_n 0, 1) := by decide +kernel
theorem dX10_init_28 : decode cX10_init 28 = .ok (.iconst 0, 1) := by decide +kernel
theorem dX10_init_29 : decode cX10_init 29 = .ok (.putfield 22, 3) := by decide +kernel
theorem dX10_init_32 : decode cX10_init 32 = .ok (.return_, 1) := by decide +kernel
theorem dX10_read_0 : decode cX10_read 0 = .ok (.aload_n 0, 1) := by decide +kernel
theorem dX10_read_1 : decode cX10_read 1 = .ok (.aload_n 1, 1) := by decide +kernel
theorem dX10_read_2 : decode cX10_read 2 = .ok (.invokevirtual 25, 3) := by decide +kernel
theorem dX10_read_5 : decode cX10_read 5 = .ok (.aload_n 0, 1) := by decide +kernel
theorem dX10_read_6 : decode cX10_read 6 = .ok (.invokevirtual 29, 3) := by decide +kernel
theorem dX10_read_9 : decode cX10_read 9 = .ok (.bipush (-2), 2) := by decide +kernel
theorem dX10_read_11 : decode cX10_read 11 = .ok (.if_icmp .ne 5, 3) := by decide +kernel
theorem dX10_read_14 : decode cX10_read 14 = .ok (.iconst (-1), 1) := by decide +kernel
theorem dX10_read_15 : decode cX10_read 15 = .ok (.ireturn, 1) := by decide +kernel
theorem dX10_read_16 : decode cX10_read 16 = .ok (.iconst 0, 1) := by decide +kernel
theorem dX10_read_17 : decode cX10_read 17 = .ok (.istore_n 3, 1) := by decide +kernel
theorem dX10_read_18 : decode cX10_read 18 = .ok (.iload_n 3, 1) := by decide +kernel
theorem dX10_read_19 : decode cX10_read 19 = .ok (.iload_n 2, 1) := by decide +kernel
theorem dX10_read_20 : decode cX10_read 20 = .ok (.if_icmp .ge 57, 3) := by decide +kernel
theorem dX10_read_23 : decode cX10_read 23 = .ok (.aload_n 0, 1) := by decide +kernel
theorem dX10_read_24 : decode cX10_read 24 = .ok (.invokevirtual 33, 3) := by decide +kernel
theorem dX10_read_27 : decode cX10_read 27 = .ok (.ifCond .ne 13, 3) := by decide +kernel
theorem dX10_read_30 : decode cX10_read 30 = .ok (.aload_n 0, 1) := by decide +kernel
theorem dX10_read_31 : decode cX10_read 31 = .ok (.getfield 15, 3) := by decide +kernel
theorem dX10_read_34 : decode cX10_read 34 = .ok (.aload_n 0, 1) := by decide +kernel
theorem dX10_read_35 : decode cX10_read 35 = .ok (.getfield 22, 3) := by decide +kernel
theorem dX10_read_38 : decode cX10_read 38 = .ok (.iaload, 1) := by decide +kernel
theorem dX10_read_39 : decode cX10_read 39 = .ok (.ireturn, 1) := by decide +kernel
theorem dX10_read_40 : decode cX10_read 40 = .ok (.aload_n 0, 1) := by decide +kernel
theorem dX10_read_41 : decode cX10_read 41 = .ok (.invokevirtual 29, 3) := by decide +kernel
theorem dX10_read_44 : decode cX10_read 44 = .ok (.bipush (-2), 2) := by decide +kernel
theorem dX10_read_46 : decode cX10_read 46 = .ok (.if_icmp .ne 5, 3) := by decide +kernel
theorem dX10_read_49 : decode cX10_read 49 = .ok (.iconst (-1), 1) := by decide +kernel
theorem dX10_read_50 : decode cX10_read 50 = .ok (.ireturn, 1) := by decide +kernel
theorem dX10_read_51 : decode cX10_read 51 = .ok (.aload_n 0, 1) := by decide +kernel
theorem dX10_read_52 : decode cX10_read 52 = .ok (.sipush 1259, 3) := by decide +kernel
theorem dX10_read_55 : decode cX10_read 55 = .ok (.invokevirtual 37, 3) := by decide +kernel
theorem dX10_read_58 : decode cX10_read 58 = .ok (.ifCond .ne 13, 3) := by decide +kernel
theorem dX10_read_61 : decode cX10_read 61 = .ok (.aload_n 0, 1) := by decide +kernel
theorem dX10_read_62 : decode cX10_read 62 = .ok (.getfield 15, 3) := by decide +kernel
theorem dX10_read_65 : decode cX10_read 65 = .ok (.aload_n 0, 1) := by decide +kernel
theorem dX10_read_66 : decode cX10_read 66 = .ok (.getfield 22, 3) := by decide +kernel
theorem dX10_read_69 : decode cX10_read 69 = .ok (.iaload, 1) := by decide +kernel
theorem dX10_read_70 : decode cX10_read 70 = .ok (.ireturn, 1) := by decide +kernel
theorem dX10_read_71 : decode cX10_read 71 = .ok (.iinc 3 1, 3) := by decide +kernel
theorem dX10_read_74 : decode cX10_read 74 = .ok (.goto (-56), 3) := by decide +kernel
theorem dX10_read_77 : decode cX10_read 77 = .ok (.aload_n 0, 1) := by decide +kernel
theorem dX10_read_78 : decode cX10_read 78 = .ok (.getfield 15, 3) := by decide +kernel
theorem dX10_read_81 : decode cX10_read 81 = .ok (.aload_n 0, 1) := by decide +kernel
theorem dX10_read_82 : decode cX10_read 82 = .ok (.getfield 22, 3) := by decide +kernel
theorem dX10_read_85 : decode cX10_read 85 = .ok (.iaload, 1) := by decide +kernel
theorem dX10_read_86 : decode cX10_read 86 = .ok (.ireturn, 1) := by decide +kernel
theorem dX10_code_0 : decode cX10_code 0 = .ok (.aload_n 0, 1) := by decide +kernel
theorem dX10_code_1 : decode cX10_code 1 = .ok (.getfield 11, 3) := by decide +kernel
theorem dX10_code_4 : decode cX10_code 4 = .ok (.aload_n 0, 1) := by decide +kernel
theorem dX10_code_5 : decode cX10_code 5 = .ok (.getfield 22, 3) := by decide +kernel
theorem dX10_code_8 : decode cX10_code 8 = .ok (.iaload, 1) := by decide +kernel
theorem dX10_code_9 : decode cX10_code 9 = .ok (.ireturn, 1) := by decide +kernel
theorem dX10_step_0 : decode cX10_step 0 = .ok (.aload_n 0, 1) := by decide +kernel
theorem dX10_step_1 : decode cX10_step 1 = .ok (.getfield 22, 3) := by decide +kernel
theorem dX10_step_4 : decode cX10_step 4 = .ok (.aload_n 0, 1) := by decide +kernel
theorem dX10_step_5 : decode cX10_step 5 = .ok (.getfield 18, 3) := by decide +kernel
theorem dX10_step_8 : decode cX10_step 8 = .ok (.if_icmp .ge 13, 3) := by decide +kernel
theorem dX10_step_11 : decode cX10_step 11 = .ok (.aload_n 0, 1) := by decide +kernel
theorem dX10_step_12 : decode cX10_step 12 = .ok (.dup, 1) := by decide +kernel
theorem dX10_step_13 : decode cX10_step 13 = .ok (.getfield 22, 3) := by decide +kernel
theorem dX10_step_16 : decode cX10_step 16 = .ok (.iconst 1, 1) := by decide +kernel
theorem dX10_step_17 : decode cX10_step 17 = .ok (.iadd, 1) := by decide +kernel
theorem dX10_step_18 : decode cX10_step 18 = .ok (.putfield 22, 3) := by decide +kernel
theorem dX10_step_21 : decode cX10_step 21 = .ok (.return_, 1) := by decide +kernel
theorem dX10_take_0 : decode cX10_take 0 = .ok (.aload_n 0, 1) := by decide +kernel
theorem dX10_take_1 : decode cX10_take 1 = .ok (.getfield 22, 3) := by decide +kernel
theorem dX10_take_4 : decode cX10_take 4 = .ok (.aload_n 0, 1) := by decide +kernel
theorem dX10_take_5 : decode cX10_take 5 = .ok (.getfield 18, 3) := by decide +kernel
theorem dX10_take_8 : decode cX10_take 8 = .ok (.if_icmp .ge 16, 3) := by decide +kernel
theorem dX10_take_11 : decode cX10_take 11 = .ok (.aload_n 0, 1) := by decide +kernel
theorem dX10_take_12 : decode cX10_take 12 = .ok (.getfield 11, 3) := by decide +kernel
theorem dX10_take_15 : decode cX10_take 15 = .ok (.aload_n 0, 1) := by decide +kernel
theorem dX10_take_16 : decode cX10_take 16 = .ok (.getfield 22, 3) := by decide +kernel
theorem dX10_take_19 : decode cX10_take 19 = .ok (.iaload, 1) := by decide +kernel
theorem dX10_take_20 : decode cX10_take 20 = .ok (.iload_n 1, 1) := by decide +kernel
theorem dX10_take_21 : decode cX10_take 21 = .ok (.if_icmp .eq 5, 3) := by decide +kernel
theorem dX10_take_24 : decode cX10_take 24 = .ok (.iconst 0, 1) := by decide +kernel
theorem dX10_take_25 : decode cX10_take 25 = .ok (.ireturn, 1) := by decide +kernel
theorem dX10_take_26 : decode cX10_take 26 = .ok (.aload_n 0, 1) := by decide +kernel
theorem dX10_take_27 : decode cX10_take 27 = .ok (.dup, 1) := by decide +kernel
theorem dX10_take_28 : decode cX10_take 28 = .ok (.getfield 22, 3) := by decide +kernel
theorem dX10_take_31 : decode cX10_take 31 = .ok (.iconst 1, 1) := by decide +kernel
theorem dX10_take_32 : decode cX10_take 32 = .ok (.iadd, 1) := by decide +kernel
theorem dX10_take_33 : decode cX10_take 33 = .ok (.putfield 22, 3) := by decide +kernel
theorem dX10_take_36 : decode cX10_take 36 = .ok (.iconst 1, 1) := by decide +kernel
theorem dX10_take_37 : decode cX10_take 37 = .ok (.ireturn, 1) := by decide +kernel
theorem dX10_number_0 : decode cX10_number 0 = .ok (.aload_n 0, 1) := by decide +kernel
theorem dX10_number_1 : decode cX10_number 1 = .ok (.getfield 11, 3) := by decide +kernel
theorem dX10_number_4 : decode cX10_number 4 = .ok (.aload_n 0, 1) := by decide +kernel
theorem dX10_number_5 : decode cX10_number 5 = .ok (.getfield 22, 3) := by decide +kernel
theorem dX10_number_8 : decode cX10_number 8 = .ok (.iaload, 1) := by decide +kernel
theorem dX10_number_9 : decode cX10_number 9 = .ok (.istore_n 2, 1) := by decide +kernel
theorem dX10_number_10 : decode cX10_number 10 = .ok (.iload_n 2, 1) := by decide +kernel
theorem dX10_number_11 : decode cX10_number 11 = .ok (.ifCond .lt 19, 3) := by decide +kernel
theorem dX10_number_14 : decode cX10_number 14 = .ok (.iload_n 2, 1) := by decide +kernel
theorem dX10_number_15 : decode cX10_number 15 = .ok (.sipush 1000, 3) := by decide +kernel
theorem dX10_number_18 : decode cX10_number 18 = .ok (.if_icmp .ge 12, 3) := by decide +kernel
theorem dX10_number_21 : decode cX10_number 21 = .ok (.iload_n 2, 1) := by decide +kernel
theorem dX10_number_22 : decode cX10_number 22 = .ok (.iload_n 1, 1) := by decide +kernel
theorem dX10_number_23 : decode cX10_number 23 = .ok (.if_icmp .gt 7, 3) := by decide +kernel
theorem dX10_number_26 : decode cX10_number 26 = .ok (.iload_n 2, 1) := by decide +kernel
theorem dX10_number_27 : decode cX10_number 27 = .ok (.goto 4, 3) := by decide +kernel
theorem dX10_number_30 : decode cX10_number 30 = .ok (.iconst (-1), 1) := by decide +kernel
theorem dX10_number_31 : decode cX10_number 31 = .ok (.ireturn, 1) := by decide +kernel
theorem dX10_letter_0 : decode cX10_letter 0 = .ok (.aload_n 0, 1) := by decide +kernel
theorem dX10_letter_1 : decode cX10_letter 1 = .ok (.getfield 11, 3) := by decide +kernel
theorem dX10_letter_4 : decode cX10_letter 4 = .ok (.aload_n 0, 1) := by decide +kernel
theorem dX10_letter_5 : decode cX10_letter 5 = .ok (.getfield 22, 3) := by decide +kernel
theorem dX10_letter_8 : decode cX10_letter 8 = .ok (.iaload, 1) := by decide +kernel
theorem dX10_letter_9 : decode cX10_letter 9 = .ok (.sipush 1100, 3) := by decide +kernel
theorem dX10_letter_12 : decode cX10_letter 12 = .ok (.isub, 1) := by decide +kernel
theorem dX10_letter_13 : decode cX10_letter 13 = .ok (.istore_n 1, 1) := by decide +kernel
theorem dX10_letter_14 : decode cX10_letter 14 = .ok (.iload_n 1, 1) := by decide +kernel
theorem dX10_letter_15 : decode cX10_letter 15 = .ok (.ifCond .lt 13, 3) := by decide +kernel
theorem dX10_letter_18 : decode cX10_letter 18 = .ok (.iload_n 1, 1) := by decide +kernel
theorem dX10_letter_19 : decode cX10_letter 19 = .ok (.bipush 8, 2) := by decide +kernel
theorem dX10_letter_21 : decode cX10_letter 21 = .ok (.if_icmp .ge 7, 3) := by decide +kernel
theorem dX10_letter_24 : decode cX10_letter 24 = .ok (.iload_n 1, 1) := by decide +kernel
theorem dX10_letter_25 : decode cX10_letter 25 = .ok (.goto 4, 3) := by decide +kernel
theorem dX10_letter_28 : decode cX10_letter 28 = .ok (.iconst (-1), 1) := by decide +kernel
theorem dX10_letter_29 : decode cX10_letter 29 = .ok (.ireturn, 1) := by decide +kernel
theorem dX10_split_0 : decode cX10_split 0 = .ok (.aload_n 0, 1) := by decide +kernel
theorem dX10_split_1 : decode cX10_split 1 = .ok (.iconst 0, 1) := by decide +kernel
theorem dX10_split_2 : decode cX10_split 2 = .ok (.putfield 18, 3) := by decide +kernel
theorem dX10_split_5 : decode cX10_split 5 = .ok (.aload_n 0, 1) := by decide +kernel
theorem dX10_split_6 : decode cX10_split 6 = .ok (.iconst 0, 1) := by decide +kernel
theorem dX10_split_7 : decode cX10_split 7 = .ok (.putfield 22, 3) := by decide +kernel
theorem dX10_split_10 : decode cX10_split 10 = .ok (.iconst 0, 1) := by decide +kernel
theorem dX10_split_11 : decode cX10_split 11 = .ok (.istore_n 2, 1) := by decide +kernel
theorem dX10_split_12 : decode cX10_split 12 = .ok (.iconst 0, 1) := by decide +kernel
theorem dX10_split_13 : decode cX10_split 13 = .ok (.istore_n 3, 1) := by decide +kernel
theorem dX10_split_14 : decode cX10_split 14 = .ok (.iload_n 3, 1) := by decide +kernel
theorem dX10_split_15 : decode cX10_split 15 = .ok (.sipush 400, 3) := by decide +kernel
theorem dX10_split_18 : decode cX10_split 18 = .ok (.if_icmp .ge 80, 3) := by decide +kernel
theorem dX10_split_21 : decode cX10_split 21 = .ok (.iload_n 2, 1) := by decide +kernel
theorem dX10_split_22 : decode cX10_split 22 = .ok (.aload_n 1, 1) := by decide +kernel
theorem dX10_split_23 : decode cX10_split 23 = .ok (.getfield 41, 3) := by decide +kernel
theorem dX10_split_26 : decode cX10_split 26 = .ok (.if_icmp .ge 72, 3) := by decide +kernel
theorem dX10_split_29 : decode cX10_split 29 = .ok (.aload_n 1, 1) := by decide +kernel
theorem dX10_split_30 : decode cX10_split 30 = .ok (.getfield 46, 3) := by decide +kernel
theorem dX10_split_33 : decode cX10_split 33 = .ok (.iload_n 2, 1) := by decide +kernel
theorem dX10_split_34 : decode cX10_split 34 = .ok (.iaload, 1) := by decide +kernel
theorem dX10_split_35 : decode cX10_split 35 = .ok (.bipush 32, 2) := by decide +kernel
theorem dX10_split_37 : decode cX10_split 37 = .ok (.if_icmp .ne 9, 3) := by decide +kernel
theorem dX10_split_40 : decode cX10_split 40 = .ok (.iinc 2 1, 3) := by decide +kernel
theorem dX10_split_43 : decode cX10_split 43 = .ok (.goto 49, 3) := by decide +kernel
theorem dX10_split_46 : decode cX10_split 46 = .ok (.aload_n 1, 1) := by decide +kernel
theorem dX10_split_47 : decode cX10_split 47 = .ok (.iload_n 2, 1) := by decide +kernel
theorem dX10_split_48 : decode cX10_split 48 = .ok (.invokestatic 49, 3) := by decide +kernel
theorem dX10_split_51 : decode cX10_split 51 = .ok (.istore 4, 2) := by decide +kernel
theorem dX10_split_53 : decode cX10_split 53 = .ok (.aload_n 0, 1) := by decide +kernel
theorem dX10_split_54 : decode cX10_split 54 = .ok (.getfield 11, 3) := by decide +kernel
theorem dX10_split_57 : decode cX10_split 57 = .ok (.aload_n 0, 1) := by decide +kernel
theorem dX10_split_58 : decode cX10_split 58 = .ok (.getfield 18, 3) := by decide +kernel
theorem dX10_split_61 : decode cX10_split 61 = .ok (.aload_n 1, 1) := by decide +kernel
theorem dX10_split_62 : decode cX10_split 62 = .ok (.iload_n 2, 1) := by decide +kernel
theorem dX10_split_63 : decode cX10_split 63 = .ok (.iload 4, 2) := by decide +kernel
theorem dX10_split_65 : decode cX10_split 65 = .ok (.invokestatic 53, 3) := by decide +kernel
theorem dX10_split_68 : decode cX10_split 68 = .ok (.iastore, 1) := by decide +kernel
theorem dX10_split_69 : decode cX10_split 69 = .ok (.aload_n 0, 1) := by decide +kernel
theorem dX10_split_70 : decode cX10_split 70 = .ok (.getfield 15, 3) := by decide +kernel
theorem dX10_split_73 : decode cX10_split 73 = .ok (.aload_n 0, 1) := by decide +kernel
theorem dX10_split_74 : decode cX10_split 74 = .ok (.getfield 18, 3) := by decide +kernel
theorem dX10_split_77 : decode cX10_split 77 = .ok (.iload_n 2, 1) := by decide +kernel
theorem dX10_split_78 : decode cX10_split 78 = .ok (.iastore, 1) := by decide +kernel
theorem dX10_split_79 : decode cX10_split 79 = .ok (.aload_n 0, 1) := by decide +kernel
theorem dX10_split_80 : decode cX10_split 80 = .ok (.dup, 1) := by decide +kernel
theorem dX10_split_81 : decode cX10_split 81 = .ok (.getfield 18, 3) := by decide +kernel
theorem dX10_split_84 : decode cX10_split 84 = .ok (.iconst 1, 1) := by decide +kernel
theorem dX10_split_85 : decode cX10_split 85 = .ok (.iadd, 1) := by decide +kernel
theorem dX10_split_86 : decode cX10_split 86 = .ok (.putfield 18, 3) := by decide +kernel
theorem dX10_split_89 : decode cX10_split 89 = .ok (.iload 4, 2) := by decide +kernel
theorem dX10_split_91 : decode cX10_split 91 = .ok (.istore_n 2, 1) := by decide +kernel
theorem dX10_split_92 : decode cX10_split 92 = .ok (.iinc 3 1, 3) := by decide +kernel
theorem dX10_split_95 : decode cX10_split 95 = .ok (.goto (-81), 3) := by decide +kernel
theorem dX10_split_98 : decode cX10_split 98 = .ok (.aload_n 0, 1) := by decide +kernel
theorem dX10_split_99 : decode cX10_split 99 = .ok (.getfield 11, 3) := by decide +kernel
theorem dX10_split_102 : decode cX10_split 102 = .ok (.aload_n 0, 1) := by decide +kernel
theorem dX10_split_103 : decode cX10_split 103 = .ok (.getfield 18, 3) := by decide +kernel
theorem dX10_split_106 : decode cX10_split 106 = .ok (.bipush (-2), 2) := by decide +kernel
theorem dX10_split_108 : decode cX10_split 108 = .ok (.iastore, 1) := by decide +kernel
theorem dX10_split_109 : decode cX10_split 109 = .ok (.aload_n 0, 1) := by decide +kernel
theorem dX10_split_110 : decode cX10_split 110 = .ok (.getfield 15, 3) := by decide +kernel
theorem dX10_split_113 : decode cX10_split 113 = .ok (.aload_n 0, 1) := by decide +kernel
theorem dX10_split_114 : decode cX10_split 114 = .ok (.getfield 18, 3) := by decide +kernel
theorem dX10_split_117 : decode cX10_split 117 = .ok (.aload_n 1, 1) := by decide +kernel
theorem dX10_split_118 : decode cX10_split 118 = .ok (.getfield 41, 3) := by decide +kernel
theorem dX10_split_121 : decode cX10_split 121 = .ok (.iastore, 1) := by decide +kernel
theorem dX10_split_122 : decode cX10_split 122 = .ok (.return_, 1) := by decide +kernel
theorem dX10_endOf_0 : decode cX10_endOf 0 = .ok (.aload_n 0, 1) := by decide +kernel
theorem dX10_endOf_1 : decode cX10_endOf 1 = .ok (.getfield 46, 3) := by decide +kernel
theorem dX10_endOf_4 : decode cX10_endOf 4 = .ok (.iload_n 1, 1) := by decide +kernel
theorem dX10_endOf_5 : decode cX10_endOf 5 = .ok (.iaload, 1) := by decide +kernel
theorem dX10_endOf_6 : decode cX10_endOf 6 = .ok (.invokestatic 57, 3) := by decide +kernel
theorem dX10_endOf_9 : decode cX10_endOf 9 = .ok (.istore_n 2, 1) := by decide +kernel
theorem dX10_endOf_10 : decode cX10_endOf 10 = .ok (.aload_n 0, 1) := by decide +kernel
theorem dX10_endOf_11 : decode cX10_endOf 11 = .ok (.getfield 46, 3) := by decide +kernel
theorem dX10_endOf_14 : decode cX10_endOf 14 = .ok (.iload_n 1, 1) := by decide +kernel
theorem dX10_endOf_15 : decode cX10_endOf 15 = .ok (.iaload, 1) := by decide +kernel
theorem dX10_endOf_16 : decode cX10_endOf 16 = .ok (.invokestatic 60, 3) := by decide +kernel
theorem dX10_endOf_19 : decode cX10_endOf 19 = .ok (.istore_n 3, 1) := by decide +kernel
theorem dX10_endOf_20 : decode cX10_endOf 20 = .ok (.iload_n 1, 1) := by decide +kernel
theorem dX10_endOf_21 : decode cX10_endOf 21 = .ok (.iconst 1, 1) := by decide +kernel
theorem dX10_endOf_22 : decode cX10_endOf 22 = .ok (.iadd, 1) := by decide +kernel
theorem dX10_endOf_23 : decode cX10_endOf 23 = .ok (.istore 4, 2) := by decide +kernel
theorem dX10_endOf_25 : decode cX10_endOf 25 = .ok (.iload 4, 2) := by decide +kernel
theorem dX10_endOf_27 : decode cX10_endOf 27 = .ok (.aload_n 0, 1) := by decide +kernel
theorem dX10_endOf_28 : decode cX10_endOf 28 = .ok (.getfield 41, 3) := by decide +kernel
theorem dX10_endOf_31 : decode cX10_endOf 31 = .ok (.if_icmp .ge 43, 3) := by decide +kernel
theorem dX10_endOf_34 : decode cX10_endOf 34 = .ok (.iload_n 2, 1) := by decide +kernel
theorem dX10_endOf_35 : decode cX10_endOf 35 = .ok (.ifCond .eq 16, 3) := by decide +kernel
theorem dX10_endOf_38 : decode cX10_endOf 38 = .ok (.aload_n 0, 1) := by decide +kernel
theorem dX10_endOf_39 : decode cX10_endOf 39 = .ok (.getfield 46, 3) := by decide +kernel
theorem dX10_endOf_42 : decode cX10_endOf 42 = .ok (.iload 4, 2) := by decide +kernel
theorem dX10_endOf_44 : decode cX10_endOf 44 = .ok (.iaload, 1) := by decide +kernel
theorem dX10_endOf_45 : decode cX10_endOf 45 = .ok (.invokestatic 57, 3) := by decide +kernel
theorem dX10_endOf_48 : decode cX10_endOf 48 = .ok (.ifCond .ne 20, 3) := by decide +kernel
theorem dX10_endOf_51 : decode cX10_endOf 51 = .ok (.iload_n 3, 1) := by decide +kernel
theorem dX10_endOf_52 : decode cX10_endOf 52 = .ok (.ifCond .eq 22, 3) := by decide +kernel
theorem dX10_endOf_55 : decode cX10_endOf 55 = .ok (.aload_n 0, 1) := by decide +kernel
theorem dX10_endOf_56 : decode cX10_endOf 56 = .ok (.getfield 46, 3) := by decide +kernel
theorem dX10_endOf_59 : decode cX10_endOf 59 = .ok (.iload 4, 2) := by decide +kernel
theorem dX10_endOf_61 : decode cX10_endOf 61 = .ok (.iaload, 1) := by decide +kernel
theorem dX10_endOf_62 : decode cX10_endOf 62 = .ok (.invokestatic 60, 3) := by decide +kernel
theorem dX10_endOf_65 : decode cX10_endOf 65 = .ok (.ifCond .eq 9, 3) := by decide +kernel
theorem dX10_endOf_68 : decode cX10_endOf 68 = .ok (.iinc 4 1, 3) := by decide +kernel
theorem dX10_endOf_71 : decode cX10_endOf 71 = .ok (.goto (-46), 3) := by decide +kernel
theorem dX10_endOf_74 : decode cX10_endOf 74 = .ok (.iload 4, 2) := by decide +kernel
theorem dX10_endOf_76 : decode cX10_endOf 76 = .ok (.ireturn, 1) := by decide +kernel
theorem dX10_codeOf_0 : decode cX10_codeOf 0 = .ok (.aload_n 0, 1) := by decide +kernel
theorem dX10_codeOf_1 : decode cX10_codeOf 1 = .ok (.getfield 46, 3) := by decide +kernel
theorem dX10_codeOf_4 : decode cX10_codeOf 4 = .ok (.iload_n 1, 1) := by decide +kernel
theorem dX10_codeOf_5 : decode cX10_codeOf 5 = .ok (.iaload, 1) := by decide +kernel
theorem dX10_codeOf_6 : decode cX10_codeOf 6 = .ok (.istore_n 3, 1) := by decide +kernel
theorem dX10_codeOf_7 : decode cX10_codeOf 7 = .ok (.iload_n 3, 1) := by decide +kernel
theorem dX10_codeOf_8 : decode cX10_codeOf 8 = .ok (.invokestatic 60, 3) := by decide +kernel
theorem dX10_codeOf_11 : decode cX10_codeOf 11 = .ok (.ifCond .eq 10, 3) := by decide +kernel
theorem dX10_codeOf_14 : decode cX10_codeOf 14 = .ok (.aload_n 0, 1) := by decide +kernel
theorem dX10_codeOf_15 : decode cX10_codeOf 15 = .ok (.iload_n 1, 1) := by decide +kernel
theorem dX10_codeOf_16 : decode cX10_codeOf 16 = .ok (.iload_n 2, 1) := by decide +kernel
theorem dX10_codeOf_17 : decode cX10_codeOf 17 = .ok (.invokestatic 63, 3) := by decide +kernel
theorem dX10_codeOf_20 : decode cX10_codeOf 20 = .ok (.ireturn, 1) := by decide +kernel
theorem dX10_codeOf_21 : decode cX10_codeOf 21 = .ok (.iload_n 3, 1) := by decide +kernel
theorem dX10_codeOf_22 : decode cX10_codeOf 22 = .ok (.invokestatic 57, 3) := by decide +kernel
theorem dX10_codeOf_25 : decode cX10_codeOf 25 = .ok (.ifCond .ne 9, 3) := by decide +kernel
theorem dX10_codeOf_28 : decode cX10_codeOf 28 = .ok (.sipush 1200, 3) := by decide +kernel
theorem dX10_codeOf_31 : decode cX10_codeOf 31 = .ok (.iload_n 3, 1) := by decide +kernel
theorem dX10_codeOf_32 : decode cX10_codeOf 32 = .ok (.iadd, 1) := by decide +kernel
theorem dX10_codeOf_33 : decode cX10_codeOf 33 = .ok (.ireturn, 1) := by decide +kernel
theorem dX10_codeOf_34 : decode cX10_codeOf 34 = .ok (.iload_n 2, 1) := by decide +kernel
theorem dX10_codeOf_35 : decode cX10_codeOf 35 = .ok (.iload_n 1, 1) := by decide +kernel
theorem dX10_codeOf_36 : decode cX10_codeOf 36 = .ok (.isub, 1) := by decide +kernel
theorem dX10_codeOf_37 : decode cX10_codeOf 37 = .ok (.iconst 1, 1) := by decide +kernel
theorem dX10_codeOf_38 : decode cX10_codeOf 38 = .ok (.if_icmp .ne 25, 3) := by decide +kernel
theorem dX10_codeOf_41 : decode cX10_codeOf 41 = .ok (.iload_n 3, 1) := by decide +kernel
theorem dX10_codeOf_42 : decode cX10_codeOf 42 = .ok (.bipush 97, 2) := by decide +kernel
theorem dX10_codeOf_44 : decode cX10_codeOf 44 = .ok (.isub, 1) := by decide +kernel
theorem dX10_codeOf_45 : decode cX10_codeOf 45 = .ok (.bipush 8, 2) := by decide +kernel
theorem dX10_codeOf_47 : decode cX10_codeOf 47 = .ok (.if_icmp .ge 14, 3) := by decide +kernel
theorem dX10_codeOf_50 : decode cX10_codeOf 50 = .ok (.sipush 1100, 3) := by decide +kernel
theorem dX10_codeOf_53 : decode cX10_codeOf 53 = .ok (.iload_n 3, 1) := by decide +kernel
theorem dX10_codeOf_54 : decode cX10_codeOf 54 = .ok (.iadd, 1) := by decide +kernel
theorem dX10_codeOf_55 : decode cX10_codeOf 55 = .ok (.bipush 97, 2) := by decide +kernel
theorem dX10_codeOf_57 : decode cX10_codeOf 57 = .ok (.isub, 1) := by decide +kernel
theorem dX10_codeOf_58 : decode cX10_codeOf 58 = .ok (.goto 4, 3) := by decide +kernel
theorem dX10_codeOf_61 : decode cX10_codeOf 61 = .ok (.iconst (-1), 1) := by decide +kernel
theorem dX10_codeOf_62 : decode cX10_codeOf 62 = .ok (.ireturn, 1) := by decide +kernel
theorem dX10_codeOf_63 : decode cX10_codeOf 63 = .ok (.aload_n 0, 1) := by decide +kernel
theorem dX10_codeOf_64 : decode cX10_codeOf 64 = .ok (.iload_n 1, 1) := by decide +kernel
theorem dX10_codeOf_65 : decode cX10_codeOf 65 = .ok (.iload_n 2, 1) := by decide +kernel
theorem dX10_codeOf_66 : decode cX10_codeOf 66 = .ok (.invokestatic 66, 3) := by decide +kernel
theorem dX10_codeOf_69 : decode cX10_codeOf 69 = .ok (.ireturn, 1) := by decide +kernel
theorem dX10_isLetter_0 : decode cX10_isLetter 0 = .ok (.iload_n 0, 1) := by decide +kernel
theorem dX10_isLetter_1 : decode cX10_isLetter 1 = .ok (.bipush 97, 2) := by decide +kernel
theorem dX10_isLetter_3 : decode cX10_isLetter 3 = .ok (.if_icmp .lt 13, 3) := by decide +kernel
theorem dX10_isLetter_6 : decode cX10_isLetter 6 = .ok (.iload_n 0, 1) := by decide +kernel
theorem dX10_isLetter_7 : decode cX10_isLetter 7 = .ok (.bipush 122, 2) := by decide +kernel
theorem dX10_isLetter_9 : decode cX10_isLetter 9 = .ok (.if_icmp .gt 7, 3) := by decide +kernel
theorem dX10_isLetter_12 : decode cX10_isLetter 12 = .ok (.iconst 1, 1) := by decide +kernel
theorem dX10_isLetter_13 : decode cX10_isLetter 13 = .ok (.goto 4, 3) := by decide +kernel
theorem dX10_isLetter_16 : decode cX10_isLetter 16 = .ok (.iconst 0, 1) := by decide +kernel
theorem dX10_isLetter_17 : decode cX10_isLetter 17 = .ok (.ireturn, 1) := by decide +kernel
theorem dX10_isDigit_0 : decode cX10_isDigit 0 = .ok (.iload_n 0, 1) := by decide +kernel
theorem dX10_isDigit_1 : decode cX10_isDigit 1 = .ok (.bipush 48, 2) := by decide +kernel
theorem dX10_isDigit_3 : decode cX10_isDigit 3 = .ok (.if_icmp .lt 13, 3) := by decide +kernel
theorem dX10_isDigit_6 : decode cX10_isDigit 6 = .ok (.iload_n 0, 1) := by decide +kernel
theorem dX10_isDigit_7 : decode cX10_isDigit 7 = .ok (.bipush 57, 2) := by decide +kernel
theorem dX10_isDigit_9 : decode cX10_isDigit 9 = .ok (.if_icmp .gt 7, 3) := by decide +kernel
theorem dX10_isDigit_12 : decode cX10_isDigit 12 = .ok (.iconst 1, 1) := by decide +kernel
theorem dX10_isDigit_13 : decode cX10_isDigit 13 = .ok (.goto 4, 3) := by decide +kernel
theorem dX10_isDigit_16 : decode cX10_isDigit 16 = .ok (.iconst 0, 1) := by decide +kernel
theorem dX10_isDigit_17 : decode cX10_isDigit 17 = .ok (.ireturn, 1) := by decide +kernel
theorem dX10_numberOf_0 : decode cX10_numberOf 0 = .ok (.iload_n 2, 1) := by decide +kernel
theorem dX10_numberOf_1 : decode cX10_numberOf 1 = .ok (.iload_n 1, 1) := by decide +kernel
theorem dX10_numberOf_2 : decode cX10_numberOf 2 = .ok (.isub, 1) := by decide +kernel
theorem dX10_numberOf_3 : decode cX10_numberOf 3 = .ok (.iconst 3, 1) := by decide +kernel
theorem dX10_numberOf_4 : decode cX10_numberOf 4 = .ok (.if_icmp .le 5, 3) := by decide +kernel
theorem dX10_numberOf_7 : decode cX10_numberOf 7 = .ok (.iconst (-1), 1) := by decide +kernel
theorem dX10_numberOf_8 : decode cX10_numberOf 8 = .ok (.ireturn, 1) := by decide +kernel
theorem dX10_numberOf_9 : decode cX10_numberOf 9 = .ok (.iconst 0, 1) := by decide +kernel
theorem dX10_numberOf_10 : decode cX10_numberOf 10 = .ok (.istore_n 3, 1) := by decide +kernel
theorem dX10_numberOf_11 : decode cX10_numberOf 11 = .ok (.iload_n 1, 1) := by decide +kernel
theorem dX10_numberOf_12 : decode cX10_numberOf 12 = .ok (.istore 4, 2) := by decide +kernel
theorem dX10_numberOf_14 : decode cX10_numberOf 14 = .ok (.iload 4, 2) := by decide +kernel
theorem dX10_numberOf_16 : decode cX10_numberOf 16 = .ok (.iload_n 2, 1) := by decide +kernel
theorem dX10_numberOf_17 : decode cX10_numberOf 17 = .ok (.if_icmp .ge 25, 3) := by decide +kernel
theorem dX10_numberOf_20 : decode cX10_numberOf 20 = .ok (.bipush 10, 2) := by decide +kernel
theorem dX10_numberOf_22 : decode cX10_numberOf 22 = .ok (.iload_n 3, 1) := by decide +kernel
theorem dX10_numberOf_23 : decode cX10_numberOf 23 = .ok (.imul, 1) := by decide +kernel
theorem dX10_numberOf_24 : decode cX10_numberOf 24 = .ok (.aload_n 0, 1) := by decide +kernel
theorem dX10_numberOf_25 : decode cX10_numberOf 25 = .ok (.getfield 46, 3) := by decide +kernel
theorem dX10_numberOf_28 : decode cX10_numberOf 28 = .ok (.iload 4, 2) := by decide +kernel
theorem dX10_numberOf_30 : decode cX10_numberOf 30 = .ok (.iaload, 1) := by decide +kernel
theorem dX10_numberOf_31 : decode cX10_numberOf 31 = .ok (.iadd, 1) := by decide +kernel
theorem dX10_numberOf_32 : decode cX10_numberOf 32 = .ok (.bipush 48, 2) := by decide +kernel
theorem dX10_numberOf_34 : decode cX10_numberOf 34 = .ok (.isub, 1) := by decide +kernel
theorem dX10_numberOf_35 : decode cX10_numberOf 35 = .ok (.istore_n 3, 1) := by decide +kernel
theorem dX10_numberOf_36 : decode cX10_numberOf 36 = .ok (.iinc 4 1, 3) := by decide +kernel
theorem dX10_numberOf_39 : decode cX10_numberOf 39 = .ok (.goto (-25), 3) := by decide +kernel
theorem dX10_numberOf_42 : decode cX10_numberOf 42 = .ok (.iload_n 3, 1) := by decide +kernel
theorem dX10_numberOf_43 : decode cX10_numberOf 43 = .ok (.ireturn, 1) := by decide +kernel
theorem dX10_wordOf_0 : decode cX10_wordOf 0 = .ok (.iconst 0, 1) := by decide +kernel
theorem dX10_wordOf_1 : decode cX10_wordOf 1 = .ok (.istore_n 3, 1) := by decide +kernel
theorem dX10_wordOf_2 : decode cX10_wordOf 2 = .ok (.iload_n 2, 1) := by decide +kernel
theorem dX10_wordOf_3 : decode cX10_wordOf 3 = .ok (.iload_n 1, 1) := by decide +kernel
theorem dX10_wordOf_4 : decode cX10_wordOf 4 = .ok (.isub, 1) := by decide +kernel
theorem dX10_wordOf_5 : decode cX10_wordOf 5 = .ok (.bipush 8, 2) := by decide +kernel
theorem dX10_wordOf_7 : decode cX10_wordOf 7 = .ok (.if_icmp .ge 55, 3) := by decide +kernel
theorem dX10_wordOf_10 : decode cX10_wordOf 10 = .ok (.iload_n 3, 1) := by decide +kernel
theorem dX10_wordOf_11 : decode cX10_wordOf 11 = .ok (.bipush 8, 2) := by decide +kernel
theorem dX10_wordOf_13 : decode cX10_wordOf 13 = .ok (.iadd, 1) := by decide +kernel
theorem dX10_wordOf_14 : decode cX10_wordOf 14 = .ok (.ldc 69, 2) := by decide +kernel
theorem dX10_wordOf_16 : decode cX10_wordOf 16 = .ok (.invokevirtual 71, 3) := by decide +kernel
theorem dX10_wordOf_19 : decode cX10_wordOf 19 = .ok (.if_icmp .gt 43, 3) := by decide +kernel
theorem dX10_wordOf_22 : decode cX10_wordOf 22 = .ok (.ldc 69, 2) := by decide +kernel
theorem dX10_wordOf_24 : decode cX10_wordOf 24 = .ok (.iload_n 3, 1) := by decide +kernel
theorem dX10_wordOf_25 : decode cX10_wordOf 25 = .ok (.iload_n 2, 1) := by decide +kernel
theorem dX10_wordOf_26 : decode cX10_wordOf 26 = .ok (.iadd, 1) := by decide +kernel
theorem dX10_wordOf_27 : decode cX10_wordOf 27 = .ok (.iload_n 1, 1) := by decide +kernel
theorem dX10_wordOf_28 : decode cX10_wordOf 28 = .ok (.isub, 1) := by decide +kernel
theorem dX10_wordOf_29 : decode cX10_wordOf 29 = .ok (.invokevirtual 75, 3) := by decide +kernel
theorem dX10_wordOf_32 : decode cX10_wordOf 32 = .ok (.bipush 32, 2) := by decide +kernel
theorem dX10_wordOf_34 : decode cX10_wordOf 34 = .ok (.if_icmp .ne 22, 3) := by decide +kernel
theorem dX10_wordOf_37 : decode cX10_wordOf 37 = .ok (.aload_n 0, 1) := by decide +kernel
theorem dX10_wordOf_38 : decode cX10_wordOf 38 = .ok (.iload_n 1, 1) := by decide +kernel
theorem dX10_wordOf_39 : decode cX10_wordOf 39 = .ok (.iload_n 2, 1) := by decide +kernel
theorem dX10_wordOf_40 : decode cX10_wordOf 40 = .ok (.iload_n 3, 1) := by decide +kernel
theorem dX10_wordOf_41 : decode cX10_wordOf 41 = .ok (.invokestatic 79, 3) := by decide +kernel
theorem dX10_wordOf_44 : decode cX10_wordOf 44 = .ok (.ifCond .eq 12, 3) := by decide +kernel
theorem dX10_wordOf_47 : decode cX10_wordOf 47 = .ok (.sipush 1000, 3) := by decide +kernel
theorem dX10_wordOf_50 : decode cX10_wordOf 50 = .ok (.iload_n 3, 1) := by decide +kernel
theorem dX10_wordOf_51 : decode cX10_wordOf 51 = .ok (.bipush 8, 2) := by decide +kernel
theorem dX10_wordOf_53 : decode cX10_wordOf 53 = .ok (.idiv, 1) := by decide +kernel
theorem dX10_wordOf_54 : decode cX10_wordOf 54 = .ok (.iadd, 1) := by decide +kernel
theorem dX10_wordOf_55 : decode cX10_wordOf 55 = .ok (.ireturn, 1) := by decide +kernel
theorem dX10_wordOf_56 : decode cX10_wordOf 56 = .ok (.iinc 3 8, 3) := by decide +kernel
theorem dX10_wordOf_59 : decode cX10_wordOf 59 = .ok (.goto (-57), 3) := by decide +kernel
theorem dX10_wordOf_62 : decode cX10_wordOf 62 = .ok (.iconst (-1), 1) := by decide +kernel
theorem dX10_wordOf_63 : decode cX10_wordOf 63 = .ok (.ireturn, 1) := by decide +kernel
theorem dX10_isField_0 : decode cX10_isField 0 = .ok (.iload_n 1, 1) := by decide +kernel
theorem dX10_isField_1 : decode cX10_isField 1 = .ok (.istore 4, 2) := by decide +kernel
theorem dX10_isField_3 : decode cX10_isField 3 = .ok (.iload 4, 2) := by decide +kernel
theorem dX10_isField_5 : decode cX10_isField 5 = .ok (.iload_n 2, 1) := by decide +kernel
theorem dX10_isField_6 : decode cX10_isField 6 = .ok (.if_icmp .ge 32, 3) := by decide +kernel
theorem dX10_isField_9 : decode cX10_isField 9 = .ok (.aload_n 0, 1) := by decide +kernel
theorem dX10_isField_10 : decode cX10_isField 10 = .ok (.getfield 46, 3) := by decide +kernel
theorem dX10_isField_13 : decode cX10_isField 13 = .ok (.iload 4, 2) := by decide +kernel
theorem dX10_isField_15 : decode cX10_isField 15 = .ok (.iaload, 1) := by decide +kernel
theorem dX10_isField_16 : decode cX10_isField 16 = .ok (.ldc 69, 2) := by decide +kernel
theorem dX10_isField_18 : decode cX10_isField 18 = .ok (.iload_n 3, 1) := by decide +kernel
theorem dX10_isField_19 : decode cX10_isField 19 = .ok (.iload 4, 2) := by decide +kernel
theorem dX10_isField_21 : decode cX10_isField 21 = .ok (.iadd, 1) := by decide +kernel
theorem dX10_isField_22 : decode cX10_isField 22 = .ok (.iload_n 1, 1) := by decide +kernel
theorem dX10_isField_23 : decode cX10_isField 23 = .ok (.isub, 1) := by decide +kernel
theorem dX10_isField_24 : decode cX10_isField 24 = .ok (.invokevirtual 75, 3) := by decide +kernel
theorem dX10_isField_27 : decode cX10_isField 27 = .ok (.if_icmp .eq 5, 3) := by decide +kernel
theorem dX10_isField_30 : decode cX10_isField 30 = .ok (.iconst 0, 1) := by decide +kernel
theorem dX10_isField_31 : decode cX10_isField 31 = .ok (.ireturn, 1) := by decide +kernel
theorem dX10_isField_32 : decode cX10_isField 32 = .ok (.iinc 4 1, 3) := by decide +kernel
theorem dX10_isField_35 : decode cX10_isField 35 = .ok (.goto (-32), 3) := by decide +kernel
theorem dX10_isField_38 : decode cX10_isField 38 = .ok (.iconst 1, 1) := by decide +kernel
theorem dX10_isField_39 : decode cX10_isField 39 = .ok (.ireturn, 1) := by decide +kernel
theorem dX11_init_0 : decode cX11_init 0 = .ok (.aload_n 0, 1) := by decide +kernel
theorem dX11_init_1 : decode cX11_init 1 = .ok (.invokespecial 1, 3) := by decide +kernel
theorem dX11_init_4 : decode cX11_init 4 = .ok (.aload_n 0, 1) := by decide +kernel
theorem dX11_init_5 : decode cX11_init 5 = .ok (.new 7, 3) := by decide +kernel
theorem dX11_init_8 : decode cX11_init 8 = .ok (.dup, 1) := by decide +kernel
theorem dX11_init_9 : decode cX11_init 9 = .ok (.invokespecial 9, 3) := by decide +kernel
theorem dX11_init_12 : decode cX11_init 12 = .ok (.putfield 10, 3) := by decide +kernel
theorem dX11_init_15 : decode cX11_init 15 = .ok (.aload_n 0, 1) := by decide +kernel
theorem dX11_init_16 : decode cX11_init 16 = .ok (.new 16, 3) := by decide +kernel
theorem dX11_init_19 : decode cX11_init 19 = .ok (.dup, 1) := by decide +kernel
theorem dX11_init_20 : decode cX11_init 20 = .ok (.invokespecial 18, 3) := by decide +kernel
theorem dX11_init_23 : decode cX11_init 23 = .ok (.putfield 19, 3) := by decide +kernel
theorem dX11_init_26 : decode cX11_init 26 = .ok (.aload_n 0, 1) := by decide +kernel
theorem dX11_init_27 : decode cX11_init 27 = .ok (.new 16, 3) := by decide +kernel
theorem dX11_init_30 : decode cX11_init 30 = .ok (.dup, 1) := by decide +kernel
theorem dX11_init_31 : decode cX11_init 31 = .ok (.invokespecial 18, 3) := by decide +kernel
theorem dX11_init_34 : decode cX11_init 34 = .ok (.putfield 23, 3) := by decide +kernel
theorem dX11_init_37 : decode cX11_init 37 = .ok (.aload_n 0, 1) := by decide +kernel
theorem dX11_init_38 : decode cX11_init 38 = .ok (.new 16, 3) := by decide +kernel
theorem dX11_init_41 : decode cX11_init 41 = .ok (.dup, 1) := by decide +kernel
theorem dX11_init_42 : decode cX11_init 42 = .ok (.invokespecial 18, 3) := by decide +kernel
theorem dX11_init_45 : decode cX11_init 45 = .ok (.putfield 26, 3) := by decide +kernel
theorem dX11_init_48 : decode cX11_init 48 = .ok (.aload_n 0, 1) := by decide +kernel
theorem dX11_init_49 : decode cX11_init 49 = .ok (.new 29, 3) := by decide +kernel
theorem dX11_init_52 : decode cX11_init 52 = .ok (.dup, 1) := by decide +kernel
theorem dX11_init_53 : decode cX11_init 53 = .ok (.invokespecial 31, 3) := by decide +kernel
theorem dX11_init_56 : decode cX11_init 56 = .ok (.putfield 32, 3) := by decide +kernel
theorem dX11_init_59 : decode cX11_init 59 = .ok (.aload_n 0, 1) := by decide +kernel
theorem dX11_init_60 : decode cX11_init 60 = .ok (.new 36, 3) := by decide +kernel
theorem dX11_init_63 : decode cX11_init 63 = .ok (.dup, 1) := by decide +kernel
theorem dX11_init_64 : decode cX11_init 64 = .ok (.invokespecial 38, 3) := by decide +kernel
theorem dX11_init_67 : decode cX11_init 67 = .ok (.putfield 39, 3) := by decide +kernel
theorem dX11_init_70 : decode cX11_init 70 = .ok (.aload_n 0, 1) := by decide +kernel
theorem dX11_init_71 : decode cX11_init 71 = .ok (.new 36, 3) := by decide +kernel
theorem dX11_init_74 : decode cX11_init 74 = .ok (.dup, 1) := by decide +kernel
theorem dX11_init_75 : decode cX11_init 75 = .ok (.invokespecial 38, 3) := by decide +kernel
theorem dX11_init_78 : decode cX11_init 78 = .ok (.putfield 43, 3) := by decide +kernel
theorem dX11_init_81 : decode cX11_init 81 = .ok (.aload_n 0, 1) := by decide +kernel
theorem dX11_init_82 : decode cX11_init 82 = .ok (.new 36, 3) := by decide +kernel
theorem dX11_init_85 : decode cX11_init 85 = .ok (.dup, 1) := by decide +kernel
theorem dX11_init_86 : decode cX11_init 86 = .ok (.invokespecial 38, 3) := by decide +kernel
theorem dX11_init_89 : decode cX11_init 89 = .ok (.putfield 46, 3) := by decide +kernel
theorem dX11_init_92 : decode cX11_init 92 = .ok (.aload_n 0, 1) := by decide +kernel
theorem dX11_init_93 : decode cX11_init 93 = .ok (.new 49, 3) := by decide +kernel
theorem dX11_init_96 : decode cX11_init 96 = .ok (.dup, 1) := by decide +kernel
theorem dX11_init_97 : decode cX11_init 97 = .ok (.aload_n 0, 1) := by decide +kernel
theorem dX11_init_98 : decode cX11_init 98 = .ok (.getfield 23, 3) := by decide +kernel
theorem dX11_init_101 : decode cX11_init 101 = .ok (.invokespecial 51, 3) := by decide +kernel
theorem dX11_init_104 : decode cX11_init 104 = .ok (.putfield 54, 3) := by decide +kernel
theorem dX11_init_107 : decode cX11_init 107 = .ok (.aload_n 0, 1) := by decide +kernel
theorem dX11_init_108 : decode cX11_init 108 = .ok (.new 58, 3) := by decide +kernel
theorem dX11_init_111 : decode cX11_init 111 = .ok (.dup, 1) := by decide +kernel
theorem dX11_init_112 : decode cX11_init 112 = .ok (.aload_n 0, 1) := by decide +kernel
theorem dX11_init_113 : decode cX11_init 113 = .ok (.getfield 43, 3) := by decide +kernel
theorem dX11_init_116 : decode cX11_init 116 = .ok (.invokespecial 60, 3) := by decide +kernel
theorem dX11_init_119 : decode cX11_init 119 = .ok (.putfield 63, 3) := by decide +kernel
theorem dX11_init_122 : decode cX11_init 122 = .ok (.aload_n 0, 1) := by decide +kernel
theorem dX11_init_123 : decode cX11_init 123 = .ok (.new 67, 3) := by decide +kernel
theorem dX11_init_126 : decode cX11_init 126 = .ok (.dup, 1) := by decide +kernel
theorem dX11_init_127 : decode cX11_init 127 = .ok (.invokespecial 69, 3) := by decide +kernel
theorem dX11_init_130 : decode cX11_init 130 = .ok (.putfield 70, 3) := by decide +kernel
theorem dX11_init_133 : decode cX11_init 133 = .ok (.aload_n 0, 1) := by decide +kernel
theorem dX11_init_134 : decode cX11_init 134 = .ok (.new 74, 3) := by decide +kernel
theorem dX11_init_137 : decode cX11_init 137 = .ok (.dup, 1) := by decide +kernel
theorem dX11_init_138 : decode cX11_init 138 = .ok (.invokespecial 76, 3) := by decide +kernel
theorem dX11_init_141 : decode cX11_init 141 = .ok (.putfield 77, 3) := by decide +kernel
theorem dX11_init_144 : decode cX11_init 144 = .ok (.aload_n 0, 1) := by decide +kernel
theorem dX11_init_145 : decode cX11_init 145 = .ok (.new 81, 3) := by decide +kernel
theorem dX11_init_148 : decode cX11_init 148 = .ok (.dup, 1) := by decide +kernel
theorem dX11_init_149 : decode cX11_init 149 = .ok (.invokespecial 83, 3) := by decide +kernel
theorem dX11_init_152 : decode cX11_init 152 = .ok (.putfield 84, 3) := by decide +kernel
theorem dX11_init_155 : decode cX11_init 155 = .ok (.aload_n 0, 1) := by decide +kernel
theorem dX11_init_156 : decode cX11_init 156 = .ok (.iconst 0, 1) := by decide +kernel
theorem dX11_init_157 : decode cX11_init 157 = .ok (.putfield 88, 3) := by decide +kernel
theorem dX11_init_160 : decode cX11_init 160 = .ok (.aload_n 0, 1) := by decide +kernel
theorem dX11_init_161 : decode cX11_init 161 = .ok (.iconst (-1), 1) := by decide +kernel
theorem dX11_init_162 : decode cX11_init 162 = .ok (.putfield 92, 3) := by decide +kernel
theorem dX11_init_165 : decode cX11_init 165 = .ok (.return_, 1) := by decide +kernel
theorem dX11_feed_0 : decode cX11_feed 0 = .ok (.aload_n 0, 1) := by decide +kernel
theorem dX11_feed_1 : decode cX11_feed 1 = .ok (.getfield 10, 3) := by decide +kernel
theorem dX11_feed_4 : decode cX11_feed 4 = .ok (.getfield 96, 3) := by decide +kernel
theorem dX11_feed_7 : decode cX11_feed 7 = .ok (.bipush 20, 2) := by decide +kernel
theorem dX11_feed_9 : decode cX11_feed 9 = .ok (.iadd, 1) := by decide +kernel
theorem dX11_feed_10 : decode cX11_feed 10 = .ok (.sipush 400, 3) := by decide +kernel
theorem dX11_feed_13 : decode cX11_feed 13 = .ok (.if_icmp .le 5, 3) := by decide +kernel
theorem dX11_feed_16 : decode cX11_feed 16 = .ok (.iconst (-1), 1) := by decide +kernel
theorem dX11_feed_17 : decode cX11_feed 17 = .ok (.ireturn, 1) := by decide +kernel
theorem dX11_feed_18 : decode cX11_feed 18 = .ok (.aload_n 0, 1) := by decide +kernel
theorem dX11_feed_19 : decode cX11_feed 19 = .ok (.getfield 10, 3) := by decide +kernel
theorem dX11_feed_22 : decode cX11_feed 22 = .ok (.iload_n 1, 1) := by decide +kernel
theorem dX11_feed_23 : decode cX11_feed 23 = .ok (.invokevirtual 99, 3) := by decide +kernel
theorem dX11_feed_26 : decode cX11_feed 26 = .ok (.aload_n 0, 1) := by decide +kernel
theorem dX11_feed_27 : decode cX11_feed 27 = .ok (.getfield 10, 3) := by decide +kernel
theorem dX11_feed_30 : decode cX11_feed 30 = .ok (.iload_n 2, 1) := by decide +kernel
theorem dX11_feed_31 : decode cX11_feed 31 = .ok (.invokevirtual 99, 3) := by decide +kernel
theorem dX11_feed_34 : decode cX11_feed 34 = .ok (.aload_n 0, 1) := by decide +kernel
theorem dX11_feed_35 : decode cX11_feed 35 = .ok (.getfield 10, 3) := by decide +kernel
theorem dX11_feed_38 : decode cX11_feed 38 = .ok (.iload_n 3, 1) := by decide +kernel
theorem dX11_feed_39 : decode cX11_feed 39 = .ok (.invokevirtual 99, 3) := by decide +kernel
theorem dX11_feed_42 : decode cX11_feed 42 = .ok (.aload_n 0, 1) := by decide +kernel
theorem dX11_feed_43 : decode cX11_feed 43 = .ok (.getfield 10, 3) := by decide +kernel
theorem dX11_feed_46 : decode cX11_feed 46 = .ok (.iload 4, 2) := by decide +kernel
theorem dX11_feed_48 : decode cX11_feed 48 = .ok (.invokevirtual 99, 3) := by decide +kernel
theorem dX11_feed_51 : decode cX11_feed 51 = .ok (.aload_n 0, 1) := by decide +kernel
theorem dX11_feed_52 : decode cX11_feed 52 = .ok (.getfield 10, 3) := by decide +kernel
theorem dX11_feed_55 : decode cX11_feed 55 = .ok (.iload 5, 2) := by decide +kernel
theorem dX11_feed_57 : decode cX11_feed 57 = .ok (.invokevirtual 99, 3) := by decide +kernel
theorem dX11_feed_60 : decode cX11_feed 60 = .ok (.aload_n 0, 1) := by decide +kernel
theorem dX11_feed_61 : decode cX11_feed 61 = .ok (.getfield 10, 3) := by decide +kernel
theorem dX11_feed_64 : decode cX11_feed 64 = .ok (.getfield 96, 3) := by decide +kernel
theorem dX11_feed_67 : decode cX11_feed 67 = .ok (.ireturn, 1) := by decide +kernel
theorem dX11_end_0 : decode cX11_end 0 = .ok (.iload_n 1, 1) := by decide +kernel
theorem dX11_end_1 : decode cX11_end 1 = .ok (.ifCond .lt 14, 3) := by decide +kernel
theorem dX11_end_4 : decode cX11_end 4 = .ok (.iload_n 1, 1) := by decide +kernel
theorem dX11_end_5 : decode cX11_end 5 = .ok (.aload_n 0, 1) := by decide +kernel
theorem dX11_end_6 : decode cX11_end 6 = .ok (.getfield 10, 3) := by decide +kernel
theorem dX11_end_9 : decode cX11_end 9 = .ok (.getfield 96, 3) := by decide +kernel
theorem dX11_end_12 : decode cX11_end 12 = .ok (.if_icmp .le 5, 3) := by decide +kernel
theorem dX11_end_15 : decode cX11_end 15 = .ok (.iconst 0, 1) := by decide +kernel
theorem dX11_end_16 : decode cX11_end 16 = .ok (.ireturn, 1) := by decide +kernel
theorem dX11_end_17 : decode cX11_end 17 = .ok (.aload_n 0, 1) := by decide +kernel
theorem dX11_end_18 : decode cX11_end 18 = .ok (.getfield 10, 3) := by decide +kernel
theorem dX11_end_21 : decode cX11_end 21 = .ok (.iload_n 1, 1) := by decide +kernel
theorem dX11_end_22 : decode cX11_end 22 = .ok (.putfield 96, 3) := by decide +kernel
theorem dX11_end_25 : decode cX11_end 25 = .ok (.iconst 1, 1) := by decide +kernel
theorem dX11_end_26 : decode cX11_end 26 = .ok (.ireturn, 1) := by decide +kernel
theorem dX11_parish_0 : decode cX11_parish 0 = .ok (.aload_n 0, 1) := by decide +kernel
theorem dX11_parish_1 : decode cX11_parish 1 = .ok (.getfield 23, 3) := by decide +kernel
theorem dX11_parish_4 : decode cX11_parish 4 = .ok (.aload_n 0, 1) := by decide +kernel
theorem dX11_parish_5 : decode cX11_parish 5 = .ok (.getfield 19, 3) := by decide +kernel
theorem dX11_parish_8 : decode cX11_parish 8 = .ok (.invokevirtual 103, 3) := by decide +kernel
theorem dX11_parish_11 : decode cX11_parish 11 = .ok (.aload_n 0, 1) := by decide +kernel
theorem dX11_parish_12 : decode cX11_parish 12 = .ok (.aload_n 0, 1) := by decide +kernel
theorem dX11_parish_13 : decode cX11_parish 13 = .ok (.getfield 54, 3) := by decide +kernel
theorem dX11_parish_16 : decode cX11_parish 16 = .ok (.aload_n 0, 1) := by decide +kernel
theorem dX11_parish_17 : decode cX11_parish 17 = .ok (.getfield 10, 3) := by decide +kernel
theorem dX11_parish_20 : decode cX11_parish 20 = .ok (.bipush 14, 2) := by decide +kernel
theorem dX11_parish_22 : decode cX11_parish 22 = .ok (.invokevirtual 106, 3) := by decide +kernel
theorem dX11_parish_25 : decode cX11_parish 25 = .ok (.putfield 92, 3) := by decide +kernel
theorem dX11_parish_28 : decode cX11_parish 28 = .ok (.aload_n 0, 1) := by decide +kernel
theorem dX11_parish_29 : decode cX11_parish 29 = .ok (.getfield 10, 3) := by decide +kernel
theorem dX11_parish_32 : decode cX11_parish 32 = .ok (.iconst 0, 1) := by decide +kernel
theorem dX11_parish_33 : decode cX11_parish 33 = .ok (.putfield 96, 3) := by decide +kernel
theorem dX11_parish_36 : decode cX11_parish 36 = .ok (.aload_n 0, 1) := by decide +kernel
theorem dX11_parish_37 : decode cX11_parish 37 = .ok (.getfield 92, 3) := by decide +kernel
theorem dX11_parish_40 : decode cX11_parish 40 = .ok (.iconst (-1), 1) := by decide +kernel
theorem dX11_parish_41 : decode cX11_parish 41 = .ok (.if_icmp .eq 13, 3) := by decide +kernel
theorem dX11_parish_44 : decode cX11_parish 44 = .ok (.new 110, 3) := by decide +kernel
theorem dX11_parish_47 : decode cX11_parish 47 = .ok (.dup, 1) := by decide +kernel
theorem dX11_parish_48 : decode cX11_parish 48 = .ok (.ldc 112, 2) := by decide +kernel
theorem dX11_parish_50 : decode cX11_parish 50 = .ok (.invokespecial 114, 3) := by decide +kernel
theorem dX11_parish_53 : decode cX11_parish 53 = .ok (.athrow, 1) := by decide +kernel
theorem dX11_parish_54 : decode cX11_parish 54 = .ok (.aload_n 0, 1) := by decide +kernel
theorem dX11_parish_55 : decode cX11_parish 55 = .ok (.getfield 19, 3) := by decide +kernel
theorem dX11_parish_58 : decode cX11_parish 58 = .ok (.getfield 117, 3) := by decide +kernel
theorem dX11_parish_61 : decode cX11_parish 61 = .ok (.bipush 12, 2) := by decide +kernel
theorem dX11_parish_63 : decode cX11_parish 63 = .ok (.if_icmp .lt 13, 3) := by decide +kernel
theorem dX11_parish_66 : decode cX11_parish 66 = .ok (.new 120, 3) := by decide +kernel
theorem dX11_parish_69 : decode cX11_parish 69 = .ok (.dup, 1) := by decide +kernel
theorem dX11_parish_70 : decode cX11_parish 70 = .ok (.ldc 122, 2) := by decide +kernel
theorem dX11_parish_72 : decode cX11_parish 72 = .ok (.invokespecial 124, 3) := by decide +kernel
theorem dX11_parish_75 : decode cX11_parish 75 = .ok (.athrow, 1) := by decide +kernel
theorem dX11_parish_76 : decode cX11_parish 76 = .ok (.aload_n 0, 1) := by decide +kernel
theorem dX11_parish_77 : decode cX11_parish 77 = .ok (.getfield 23, 3) := by decide +kernel
theorem dX11_parish_80 : decode cX11_parish 80 = .ok (.dup, 1) := by decide +kernel
theorem dX11_parish_81 : decode cX11_parish 81 = .ok (.getfield 117, 3) := by decide +kernel
theorem dX11_parish_84 : decode cX11_parish 84 = .ok (.iconst 1, 1) := by decide +kernel
theorem dX11_parish_85 : decode cX11_parish 85 = .ok (.iadd, 1) := by decide +kernel
theorem dX11_parish_86 : decode cX11_parish 86 = .ok (.putfield 117, 3) := by decide +kernel
theorem dX11_parish_89 : decode cX11_parish 89 = .ok (.aload_n 0, 1) := by decide +kernel
theorem dX11_parish_90 : decode cX11_parish 90 = .ok (.getfield 19, 3) := by decide +kernel
theorem dX11_parish_93 : decode cX11_parish 93 = .ok (.aload_n 0, 1) := by decide +kernel
theorem dX11_parish_94 : decode cX11_parish 94 = .ok (.getfield 23, 3) := by decide +kernel
theorem dX11_parish_97 : decode cX11_parish 97 = .ok (.invokevirtual 103, 3) := by decide +kernel
theorem dX11_parish_100 : decode cX11_parish 100 = .ok (.aload_n 0, 1) := by decide +kernel
theorem dX11_parish_101 : decode cX11_parish 101 = .ok (.getfield 32, 3) := by decide +kernel
theorem dX11_parish_104 : decode cX11_parish 104 = .ok (.invokevirtual 125, 3) := by decide +kernel
theorem dX11_parish_107 : decode cX11_parish 107 = .ok (.aload_n 0, 1) := by decide +kernel
theorem dX11_parish_108 : decode cX11_parish 108 = .ok (.getfield 19, 3) := by decide +kernel
theorem dX11_parish_111 : decode cX11_parish 111 = .ok (.getfield 117, 3) := by decide +kernel
theorem dX11_parish_114 : decode cX11_parish 114 = .ok (.ireturn, 1) := by decide +kernel
theorem dX11_law_0 : decode cX11_law 0 = .ok (.aload_n 0, 1) := by decide +kernel
theorem dX11_law_1 : decode cX11_law 1 = .ok (.getfield 43, 3) := by decide +kernel
theorem dX11_law_4 : decode cX11_law 4 = .ok (.invokevirtual 128, 3) := by decide +kernel
theorem dX11_law_7 : decode cX11_law 7 = .ok (.aload_n 0, 1) := by decide +kernel
theorem dX11_law_8 : decode cX11_law 8 = .ok (.aload_n 0, 1) := by decide +kernel
theorem dX11_law_9 : decode cX11_law 9 = .ok (.getfield 63, 3) := by decide +kernel
theorem dX11_law_12 : decode cX11_law 12 = .ok (.aload_n 0, 1) := by decide +kernel
theorem dX11_law_13 : decode cX11_law 13 = .ok (.getfield 10, 3) := by decide +kernel
theorem dX11_law_16 : decode cX11_law 16 = .ok (.bipush 12, 2) := by decide +kernel
theorem dX11_law_18 : decode cX11_law 18 = .ok (.invokevirtual 131, 3) := by decide +kernel
theorem dX11_law_21 : decode cX11_law 21 = .ok (.putfield 92, 3) := by decide +kernel
theorem dX11_law_24 : decode cX11_law 24 = .ok (.aload_n 0, 1) := by decide +kernel
theorem dX11_law_25 : decode cX11_law 25 = .ok (.getfield 10, 3) := by decide +kernel
theorem dX11_law_28 : decode cX11_law 28 = .ok (.iconst 0, 1) := by decide +kernel
theorem dX11_law_29 : decode cX11_law 29 = .ok (.putfield 96, 3) := by decide +kernel
theorem dX11_law_32 : decode cX11_law 32 = .ok (.aload_n 0, 1) := by decide +kernel
theorem dX11_law_33 : decode cX11_law 33 = .ok (.getfield 92, 3) := by decide +kernel
theorem dX11_law_36 : decode cX11_law 36 = .ok (.iconst (-1), 1) := by decide +kernel
theorem dX11_law_37 : decode cX11_law 37 = .ok (.if_icmp .eq 13, 3) := by decide +kernel
theorem dX11_law_40 : decode cX11_law 40 = .ok (.new 110, 3) := by decide +kernel
theorem dX11_law_43 : decode cX11_law 43 = .ok (.dup, 1) := by decide +kernel
theorem dX11_law_44 : decode cX11_law 44 = .ok (.ldc 132, 2) := by decide +kernel
theorem dX11_law_46 : decode cX11_law 46 = .ok (.invokespecial 114, 3) := by decide +kernel
theorem dX11_law_49 : decode cX11_law 49 = .ok (.athrow, 1) := by decide +kernel
theorem dX11_law_50 : decode cX11_law 50 = .ok (.aload_n 0, 1) := by decide +kernel
theorem dX11_law_51 : decode cX11_law 51 = .ok (.getfield 39, 3) := by decide +kernel
theorem dX11_law_54 : decode cX11_law 54 = .ok (.aload_n 0, 1) := by decide +kernel
theorem dX11_law_55 : decode cX11_law 55 = .ok (.getfield 43, 3) := by decide +kernel
theorem dX11_law_58 : decode cX11_law 58 = .ok (.invokevirtual 134, 3) := by decide +kernel
theorem dX11_law_61 : decode cX11_law 61 = .ok (.aload_n 0, 1) := by decide +kernel
theorem dX11_law_62 : decode cX11_law 62 = .ok (.getfield 32, 3) := by decide +kernel
theorem dX11_law_65 : decode cX11_law 65 = .ok (.invokevirtual 125, 3) := by decide +kernel
theorem dX11_law_68 : decode cX11_law 68 = .ok (.aload_n 0, 1) := by decide +kernel
theorem dX11_law_69 : decode cX11_law 69 = .ok (.getfield 39, 3) := by decide +kernel
theorem dX11_law_72 : decode cX11_law 72 = .ok (.getfield 136, 3) := by decide +kernel
theorem dX11_law_75 : decode cX11_law 75 = .ok (.ireturn, 1) := by decide +kernel
theorem dX11_fault_0 : decode cX11_fault 0 = .ok (.aload_n 0, 1) := by decide +kernel
theorem dX11_fault_1 : decode cX11_fault 1 = .ok (.getfield 92, 3) := by decide +kernel
theorem dX11_fault_4 : decode cX11_fault 4 = .ok (.ireturn, 1) := by decide +kernel
theorem dX11_thing_0 : decode cX11_thing 0 = .ok (.iload_n 1, 1) := by decide +kernel
theorem dX11_thing_1 : decode cX11_thing 1 = .ok (.invokestatic 139, 3) := by decide +kernel
theorem dX11_thing_4 : decode cX11_thing 4 = .ok (.iload_n 2, 1) := by decide +kernel
theorem dX11_thing_5 : decode cX11_thing 5 = .ok (.ifCond .lt 8, 3) := by decide +kernel
theorem dX11_thing_8 : decode cX11_thing 8 = .ok (.iload_n 2, 1) := by decide +kernel
theorem dX11_thing_9 : decode cX11_thing 9 = .ok (.iconst 4, 1) := by decide +kernel
theorem dX11_thing_10 : decode cX11_thing 10 = .ok (.if_icmp .le 13, 3) := by decide +kernel
theorem dX11_thing_13 : decode cX11_thing 13 = .ok (.new 142, 3) := by decide +kernel
theorem dX11_thing_16 : decode cX11_thing 16 = .ok (.dup, 1) := by decide +kernel
theorem dX11_thing_17 : decode cX11_thing 17 = .ok (.ldc 144, 2) := by decide +kernel
theorem dX11_thing_19 : decode cX11_thing 19 = .ok (.invokespecial 146, 3) := by decide +kernel
theorem dX11_thing_22 : decode cX11_thing 22 = .ok (.athrow, 1) := by decide +kernel
theorem dX11_thing_23 : decode cX11_thing 23 = .ok (.iload_n 2, 1) := by decide +kernel
theorem dX11_thing_24 : decode cX11_thing 24 = .ok (.iconst 4, 1) := by decide +kernel
theorem dX11_thing_25 : decode cX11_thing 25 = .ok (.if_icmp .ne 14, 3) := by decide +kernel
theorem dX11_thing_28 : decode cX11_thing 28 = .ok (.aload_n 0, 1) := by decide +kernel
theorem dX11_thing_29 : decode cX11_thing 29 = .ok (.getfield 19, 3) := by decide +kernel
theorem dX11_thing_32 : decode cX11_thing 32 = .ok (.iload_n 1, 1) := by decide +kernel
theorem dX11_thing_33 : decode cX11_thing 33 = .ok (.invokevirtual 147, 3) := by decide +kernel
theorem dX11_thing_36 : decode cX11_thing 36 = .ok (.goto 14, 3) := by decide +kernel
theorem dX11_thing_39 : decode cX11_thing 39 = .ok (.aload_n 0, 1) := by decide +kernel
theorem dX11_thing_40 : decode cX11_thing 40 = .ok (.getfield 19, 3) := by decide +kernel
theorem dX11_thing_43 : decode cX11_thing 43 = .ok (.getfield 151, 3) := by decide +kernel
theorem dX11_thing_46 : decode cX11_thing 46 = .ok (.iload_n 2, 1) := by decide +kernel
theorem dX11_thing_47 : decode cX11_thing 47 = .ok (.aaload, 1) := by decide +kernel
theorem dX11_thing_48 : decode cX11_thing 48 = .ok (.iload_n 1, 1) := by decide +kernel
theorem dX11_thing_49 : decode cX11_thing 49 = .ok (.iaload, 1) := by decide +kernel
theorem dX11_thing_50 : decode cX11_thing 50 = .ok (.ireturn, 1) := by decide +kernel
theorem dX11_child_0 : decode cX11_child 0 = .ok (.aload_n 0, 1) := by decide +kernel
theorem dX11_child_1 : decode cX11_child 1 = .ok (.iload_n 1, 1) := by decide +kernel
theorem dX11_child_2 : decode cX11_child 2 = .ok (.invokevirtual 155, 3) := by decide +kernel
theorem dX11_child_5 : decode cX11_child 5 = .ok (.iload_n 2, 1) := by decide +kernel
theorem dX11_child_6 : decode cX11_child 6 = .ok (.ifCond .lt 9, 3) := by decide +kernel
theorem dX11_child_9 : decode cX11_child 9 = .ok (.iload_n 2, 1) := by decide +kernel
theorem dX11_child_10 : decode cX11_child 10 = .ok (.bipush 11, 2) := by decide +kernel
theorem dX11_child_12 : decode cX11_child 12 = .ok (.if_icmp .le 13, 3) := by decide +kernel
theorem dX11_child_15 : decode cX11_child 15 = .ok (.new 142, 3) := by decide +kernel
theorem dX11_child_18 : decode cX11_child 18 = .ok (.dup, 1) := by decide +kernel
theorem dX11_child_19 : decode cX11_child 19 = .ok (.ldc 158, 2) := by decide +kernel
theorem dX11_child_21 : decode cX11_child 21 = .ok (.invokespecial 146, 3) := by decide +kernel
theorem dX11_child_24 : decode cX11_child 24 = .ok (.athrow, 1) := by decide +kernel
theorem dX11_child_25 : decode cX11_child 25 = .ok (.iload_n 2, 1) := by decide +kernel
theorem dX11_child_26 : decode cX11_child 26 = .ok (.tableswitch 61 9 11 #[26, 39, 52], 26) := by decide +kernel
theorem dX11_child_52 : decode cX11_child 52 = .ok (.aload_n 0, 1) := by decide +kernel
theorem dX11_child_53 : decode cX11_child 53 = .ok (.getfield 39, 3) := by decide +kernel
theorem dX11_child_56 : decode cX11_child 56 = .ok (.aload_n 0, 1) := by decide +kernel
theorem dX11_child_57 : decode cX11_child 57 = .ok (.getfield 19, 3) := by decide +kernel
theorem dX11_child_60 : decode cX11_child 60 = .ok (.iload_n 1, 1) := by decide +kernel
theorem dX11_child_61 : decode cX11_child 61 = .ok (.invokevirtual 160, 3) := by decide +kernel
theorem dX11_child_64 : decode cX11_child 64 = .ok (.ireturn, 1) := by decide +kernel
theorem dX11_child_65 : decode cX11_child 65 = .ok (.aload_n 0, 1) := by decide +kernel
theorem dX11_child_66 : decode cX11_child 66 = .ok (.getfield 39, 3) := by decide +kernel
theorem dX11_child_69 : decode cX11_child 69 = .ok (.aload_n 0, 1) := by decide +kernel
theorem dX11_child_70 : decode cX11_child 70 = .ok (.getfield 19, 3) := by decide +kernel
theorem dX11_child_73 : decode cX11_child 73 = .ok (.iload_n 1, 1) := by decide +kernel
theorem dX11_child_74 : decode cX11_child 74 = .ok (.invokevirtual 164, 3) := by decide +kernel
theorem dX11_child_77 : decode cX11_child 77 = .ok (.ireturn, 1) := by decide +kernel
theorem dX11_child_78 : decode cX11_child 78 = .ok (.aload_n 0, 1) := by decide +kernel
theorem dX11_child_79 : decode cX11_child 79 = .ok (.getfield 19, 3) := by decide +kernel
theorem dX11_child_82 : decode cX11_child 82 = .ok (.iload_n 1, 1) := by decide +kernel
theorem dX11_child_83 : decode cX11_child 83 = .ok (.invokevirtual 167, 3) := by decide +kernel
theorem dX11_child_86 : decode cX11_child 86 = .ok (.ireturn, 1) := by decide +kernel
theorem dX11_child_87 : decode cX11_child 87 = .ok (.aload_n 0, 1) := by decide +kernel
theorem dX11_child_88 : decode cX11_child 88 = .ok (.getfield 19, 3) := by decide +kernel
theorem dX11_child_91 : decode cX11_child 91 = .ok (.getfield 170, 3) := by decide +kernel
theorem dX11_child_94 : decode cX11_child 94 = .ok (.iload_n 2, 1) := by decide +kernel
theorem dX11_child_95 : decode cX11_child 95 = .ok (.aaload, 1) := by decide +kernel
theorem dX11_child_96 : decode cX11_child 96 = .ok (.iload_n 1, 1) := by decide +kernel
theorem dX11_child_97 : decode cX11_child 97 = .ok (.iaload, 1) := by decide +kernel
theorem dX11_child_98 : decode cX11_child 98 = .ok (.ireturn, 1) := by decide +kernel
theorem dX11_months_0 : decode cX11_months 0 = .ok (.iload_n 1, 1) := by decide +kernel
theorem dX11_months_1 : decode cX11_months 1 = .ok (.iconst 1, 1) := by decide +kernel
theorem dX11_months_2 : decode cX11_months 2 = .ok (.if_icmp .lt 9, 3) := by decide +kernel
theorem dX11_months_5 : decode cX11_months 5 = .ok (.iload_n 1, 1) := by decide +kernel
theorem dX11_months_6 : decode cX11_months 6 = .ok (.bipush 120, 2) := by decide +kernel
theorem dX11_months_8 : decode cX11_months 8 = .ok (.if_icmp .le 13, 3) := by decide +kernel
theorem dX11_months_11 : decode cX11_months 11 = .ok (.new 110, 3) := by decide +kernel
theorem dX11_months_14 : decode cX11_months 14 = .ok (.dup, 1) := by decide +kernel
theorem dX11_months_15 : decode cX11_months 15 = .ok (.ldc 173, 2) := by decide +kernel
theorem dX11_months_17 : decode cX11_months 17 = .ok (.invokespecial 114, 3) := by decide +kernel
theorem dX11_months_20 : decode cX11_months 20 = .ok (.athrow, 1) := by decide +kernel
theorem dX11_months_21 : decode cX11_months 21 = .ok (.aload_n 0, 1) := by decide +kernel
theorem dX11_months_22 : decode cX11_months 22 = .ok (.getfield 32, 3) := by decide +kernel
theorem dX11_months_25 : decode cX11_months 25 = .ok (.aload_n 0, 1) := by decide +kernel
theorem dX11_months_26 : decode cX11_months 26 = .ok (.getfield 19, 3) := by decide +kernel
theorem dX11_months_29 : decode cX11_months 29 = .ok (.invokevirtual 175, 3) := by decide +kernel
theorem dX11_months_32 : decode cX11_months 32 = .ok (.iconst 0, 1) := by decide +kernel
theorem dX11_months_33 : decode cX11_months 33 = .ok (.istore_n 2, 1) := by decide +kernel
theorem dX11_months_34 : decode cX11_months 34 = .ok (.iconst 0, 1) := by decide +kernel
theorem dX11_months_35 : decode cX11_months 35 = .ok (.istore_n 3, 1) := by decide +kernel
theorem dX11_months_36 : decode cX11_months 36 = .ok (.iload_n 3, 1) := by decide +kernel
theorem dX11_months_37 : decode cX11_months 37 = .ok (.iload_n 1, 1) := by decide +kernel
theorem dX11_months_38 : decode cX11_months 38 = .ok (.if_icmp .ge 24, 3) := by decide +kernel
theorem dX11_months_41 : decode cX11_months 41 = .ok (.iload_n 2, 1) := by decide +kernel
theorem dX11_months_42 : decode cX11_months 42 = .ok (.aload_n 0, 1) := by decide +kernel
theorem dX11_months_43 : decode cX11_months 43 = .ok (.getfield 19, 3) := by decide +kernel
theorem dX11_months_46 : decode cX11_months 46 = .ok (.aload_n 0, 1) := by decide +kernel
theorem dX11_months_47 : decode cX11_months 47 = .ok (.getfield 39, 3) := by decide +kernel
theorem dX11_months_50 : decode cX11_months 50 = .ok (.iconst 1, 1) := by decide +kernel
theorem dX11_months_51 : decode cX11_months 51 = .ok (.invokevirtual 178, 3) := by decide +kernel
theorem dX11_months_54 : decode cX11_months 54 = .ok (.iadd, 1) := by decide +kernel
theorem dX11_months_55 : decode cX11_months 55 = .ok (.istore_n 2, 1) := by decide +kernel
theorem dX11_months_56 : decode cX11_months 56 = .ok (.iinc 3 1, 3) := by decide +kernel
theorem dX11_months_59 : decode cX11_months 59 = .ok (.goto (-23), 3) := by decide +kernel
theorem dX11_months_62 : decode cX11_months 62 = .ok (.iload_n 2, 1) := by decide +kernel
theorem dX11_months_63 : decode cX11_months 63 = .ok (.ireturn, 1) := by decide +kernel
theorem dX11_birth_0 : decode cX11_birth 0 = .ok (.aload_n 0, 1) := by decide +kernel
theorem dX11_birth_1 : decode cX11_birth 1 = .ok (.getfield 19, 3) := by decide +kernel
theorem dX11_birth_4 : decode cX11_birth 4 = .ok (.getfield 182, 3) := by decide +kernel
theorem dX11_birth_7 : decode cX11_birth 7 = .ok (.bipush 8, 2) := by decide +kernel
theorem dX11_birth_9 : decode cX11_birth 9 = .ok (.if_icmp .lt 13, 3) := by decide +kernel
theorem dX11_birth_12 : decode cX11_birth 12 = .ok (.new 185, 3) := by decide +kernel
theorem dX11_birth_15 : decode cX11_birth 15 = .ok (.dup, 1) := by decide +kernel
theorem dX11_birth_16 : decode cX11_birth 16 = .ok (.ldc 187, 2) := by decide +kernel
theorem dX11_birth_18 : decode cX11_birth 18 = .ok (.invokespecial 189, 3) := by decide +kernel
theorem dX11_birth_21 : decode cX11_birth 21 = .ok (.athrow, 1) := by decide +kernel
theorem dX11_birth_22 : decode cX11_birth 22 = .ok (.aload_n 0, 1) := by decide +kernel
theorem dX11_birth_23 : decode cX11_birth 23 = .ok (.getfield 32, 3) := by decide +kernel
theorem dX11_birth_26 : decode cX11_birth 26 = .ok (.aload_n 0, 1) := by decide +kernel
theorem dX11_birth_27 : decode cX11_birth 27 = .ok (.getfield 19, 3) := by decide +kernel
theorem dX11_birth_30 : decode cX11_birth 30 = .ok (.invokevirtual 175, 3) := by decide +kernel
theorem dX11_birth_33 : decode cX11_birth 33 = .ok (.aload_n 0, 1) := by decide +kernel
theorem dX11_birth_34 : decode cX11_birth 34 = .ok (.getfield 19, 3) := by decide +kernel
theorem dX11_birth_37 : decode cX11_birth 37 = .ok (.aload_n 0, 1) := by decide +kernel
theorem dX11_birth_38 : decode cX11_birth 38 = .ok (.getfield 19, 3) := by decide +kernel
theorem dX11_birth_41 : decode cX11_birth 41 = .ok (.invokevirtual 190, 3) := by decide +kernel
theorem dX11_birth_44 : decode cX11_birth 44 = .ok (.invokevirtual 194, 3) := by decide +kernel
theorem dX11_birth_47 : decode cX11_birth 47 = .ok (.ireturn, 1) := by decide +kernel
theorem dX11_move_0 : decode cX11_move 0 = .ok (.aload_n 0, 1) := by decide +kernel
theorem dX11_move_1 : decode cX11_move 1 = .ok (.iload_n 1, 1) := by decide +kernel
theorem dX11_move_2 : decode cX11_move 2 = .ok (.invokevirtual 155, 3) := by decide +kernel
theorem dX11_move_5 : decode cX11_move 5 = .ok (.iload_n 2, 1) := by decide +kernel
theorem dX11_move_6 : decode cX11_move 6 = .ok (.ifCond .lt 8, 3) := by decide +kernel
theorem dX11_move_9 : decode cX11_move 9 = .ok (.iload_n 2, 1) := by decide +kernel
theorem dX11_move_10 : decode cX11_move 10 = .ok (.iconst 5, 1) := by decide +kernel
theorem dX11_move_11 : decode cX11_move 11 = .ok (.if_icmp .lt 13, 3) := by decide +kernel
theorem dX11_move_14 : decode cX11_move 14 = .ok (.new 197, 3) := by decide +kernel
theorem dX11_move_17 : decode cX11_move 17 = .ok (.dup, 1) := by decide +kernel
theorem dX11_move_18 : decode cX11_move 18 = .ok (.ldc 199, 2) := by decide +kernel
theorem dX11_move_20 : decode cX11_move 20 = .ok (.invokespecial 201, 3) := by decide +kernel
theorem dX11_move_23 : decode cX11_move 23 = .ok (.athrow, 1) := by decide +kernel
theorem dX11_move_24 : decode cX11_move 24 = .ok (.aload_n 0, 1) := by decide +kernel
theorem dX11_move_25 : decode cX11_move 25 = .ok (.getfield 19, 3) := by decide +kernel
theorem dX11_move_28 : decode cX11_move 28 = .ok (.iload_n 1, 1) := by decide +kernel
theorem dX11_move_29 : decode cX11_move 29 = .ok (.iload_n 2, 1) := by decide +kernel
theorem dX11_move_30 : decode cX11_move 30 = .ok (.invokevirtual 202, 3) := by decide +kernel
theorem dX11_move_33 : decode cX11_move 33 = .ok (.ifCond .ne 13, 3) := by decide +kernel
theorem dX11_move_36 : decode cX11_move 36 = .ok (.new 185, 3) := by decide +kernel
theorem dX11_move_39 : decode cX11_move 39 = .ok (.dup, 1) := by decide +kernel
theorem dX11_move_40 : decode cX11_move 40 = .ok (.ldc 206, 2) := by decide +kernel
theorem dX11_move_42 : decode cX11_move 42 = .ok (.invokespecial 189, 3) := by decide +kernel
theorem dX11_move_45 : decode cX11_move 45 = .ok (.athrow, 1) := by decide +kernel
theorem dX11_move_46 : decode cX11_move 46 = .ok (.aload_n 0, 1) := by decide +kernel
theorem dX11_move_47 : decode cX11_move 47 = .ok (.getfield 32, 3) := by decide +kernel
theorem dX11_move_50 : decode cX11_move 50 = .ok (.aload_n 0, 1) := by decide +kernel
theorem dX11_move_51 : decode cX11_move 51 = .ok (.getfield 19, 3) := by decide +kernel
theorem dX11_move_54 : decode cX11_move 54 = .ok (.invokevirtual 175, 3) := by decide +kernel
theorem dX11_move_57 : decode cX11_move 57 = .ok (.aload_n 0, 1) := by decide +kernel
theorem dX11_move_58 : decode cX11_move 58 = .ok (.getfield 19, 3) := by decide +kernel
theorem dX11_move_61 : decode cX11_move 61 = .ok (.iload_n 1, 1) := by decide +kernel
theorem dX11_move_62 : decode cX11_move 62 = .ok (.iload_n 2, 1) := by decide +kernel
theorem dX11_move_63 : decode cX11_move 63 = .ok (.aload_n 0, 1) := by decide +kernel
theorem dX11_move_64 : decode cX11_move 64 = .ok (.getfield 39, 3) := by decide +kernel
theorem dX11_move_67 : decode cX11_move 67 = .ok (.invokevirtual 208, 3) := by decide +kernel
theorem dX11_move_70 : decode cX11_move 70 = .ok (.aload_n 0, 1) := by decide +kernel
theorem dX11_move_71 : decode cX11_move 71 = .ok (.getfield 19, 3) := by decide +kernel
theorem dX11_move_74 : decode cX11_move 74 = .ok (.getfield 170, 3) := by decide +kernel
theorem dX11_move_77 : decode cX11_move 77 = .ok (.iconst 2, 1) := by decide +kernel
theorem dX11_move_78 : decode cX11_move 78 = .ok (.aaload, 1) := by decide +kernel
theorem dX11_move_79 : decode cX11_move 79 = .ok (.iload_n 1, 1) := by decide +kernel
theorem dX11_move_80 : decode cX11_move 80 = .ok (.iaload, 1) := by decide +kernel
theorem dX11_move_81 : decode cX11_move 81 = .ok (.ireturn, 1) := by decide +kernel
theorem dX11_blow_0 : decode cX11_blow 0 = .ok (.aload_n 0, 1) := by decide +kernel
theorem dX11_blow_1 : decode cX11_blow 1 = .ok (.iload_n 1, 1) := by decide +kernel
theorem dX11_blow_2 : decode cX11_blow 2 = .ok (.invokevirtual 155, 3) := by decide +kernel
theorem dX11_blow_5 : decode cX11_blow 5 = .ok (.aload_n 0, 1) := by decide +kernel
theorem dX11_blow_6 : decode cX11_blow 6 = .ok (.getfield 19, 3) := by decide +kernel
theorem dX11_blow_9 : decode cX11_blow 9 = .ok (.getfield 170, 3) := by decide +kernel
theorem dX11_blow_12 : decode cX11_blow 12 = .ok (.iconst 5, 1) := by decide +kernel
theorem dX11_blow_13 : decode cX11_blow 13 = .ok (.aaload, 1) := by decide +kernel
theorem dX11_blow_14 : decode cX11_blow 14 = .ok (.iload_n 1, 1) := by decide +kernel
theorem dX11_blow_15 : decode cX11_blow 15 = .ok (.iaload, 1) := by decide +kernel
theorem dX11_blow_16 : decode cX11_blow 16 = .ok (.iconst (-1), 1) := by decide +kernel
theorem dX11_blow_17 : decode cX11_blow 17 = .ok (.if_icmp .ne 13, 3) := by decide +kernel
theorem dX11_blow_20 : decode cX11_blow 20 = .ok (.new 185, 3) := by decide +kernel
theorem dX11_blow_23 : decode cX11_blow 23 = .ok (.dup, 1) := by decide +kernel
theorem dX11_blow_24 : decode cX11_blow 24 = .ok (.ldc 212, 2) := by decide +kernel
theorem dX11_blow_26 : decode cX11_blow 26 = .ok (.invokespecial 189, 3) := by decide +kernel
theorem dX11_blow_29 : decode cX11_blow 29 = .ok (.athrow, 1) := by decide +kernel
theorem dX11_blow_30 : decode cX11_blow 30 = .ok (.aload_n 0, 1) := by decide +kernel
theorem dX11_blow_31 : decode cX11_blow 31 = .ok (.iconst 5, 1) := by decide +kernel
theorem dX11_blow_32 : decode cX11_blow 32 = .ok (.iload_n 1, 1) := by decide +kernel
theorem dX11_blow_33 : decode cX11_blow 33 = .ok (.iconst (-1), 1) := by decide +kernel
theorem dX11_blow_34 : decode cX11_blow 34 = .ok (.invokevirtual 214, 3) := by decide +kernel
theorem dX11_blow_37 : decode cX11_blow 37 = .ok (.ireturn, 1) := by decide +kernel
theorem dX11_wish_0 : decode cX11_wish 0 = .ok (.aload_n 0, 1) := by decide +kernel
theorem dX11_wish_1 : decode cX11_wish 1 = .ok (.iload_n 1, 1) := by decide +kernel
theorem dX11_wish_2 : decode cX11_wish 2 = .ok (.invokevirtual 155, 3) := by decide +kernel
theorem dX11_wish_5 : decode cX11_wish 5 = .ok (.iload_n 2, 1) := by decide +kernel
theorem dX11_wish_6 : decode cX11_wish 6 = .ok (.iconst (-1), 1) := by decide +kernel
theorem dX11_wish_7 : decode cX11_wish 7 = .ok (.if_icmp .eq 7, 3) := by decide +kernel
theorem dX11_wish_10 : decode cX11_wish 10 = .ok (.iload_n 2, 1) := by decide +kernel
theorem dX11_wish_11 : decode cX11_wish 11 = .ok (.invokestatic 139, 3) := by decide +kernel
theorem dX11_wish_14 : decode cX11_wish 14 = .ok (.aload_n 0, 1) := by decide +kernel
theorem dX11_wish_15 : decode cX11_wish 15 = .ok (.iconst 4, 1) := by decide +kernel
theorem dX11_wish_16 : decode cX11_wish 16 = .ok (.iload_n 1, 1) := by decide +kernel
theorem dX11_wish_17 : decode cX11_wish 17 = .ok (.iload_n 2, 1) := by decide +kernel
theorem dX11_wish_18 : decode cX11_wish 18 = .ok (.invokevirtual 214, 3) := by decide +kernel
theorem dX11_wish_21 : decode cX11_wish 21 = .ok (.ireturn, 1) := by decide +kernel
theorem dX11_grip_0 : decode cX11_grip 0 = .ok (.aload_n 0, 1) := by decide +kernel
theorem dX11_grip_1 : decode cX11_grip 1 = .ok (.iload_n 1, 1) := by decide +kernel
theorem dX11_grip_2 : decode cX11_grip 2 = .ok (.invokevirtual 155, 3) := by decide +kernel
theorem dX11_grip_5 : decode cX11_grip 5 = .ok (.iload_n 2, 1) := by decide +kernel
theorem dX11_grip_6 : decode cX11_grip 6 = .ok (.ifCond .lt 9, 3) := by decide +kernel
theorem dX11_grip_9 : decode cX11_grip 9 = .ok (.iload_n 2, 1) := by decide +kernel
theorem dX11_grip_10 : decode cX11_grip 10 = .ok (.bipush 9, 2) := by decide +kernel
theorem dX11_grip_12 : decode cX11_grip 12 = .ok (.if_icmp .le 13, 3) := by decide +kernel
theorem dX11_grip_15 : decode cX11_grip 15 = .ok (.new 110, 3) := by decide +kernel
theorem dX11_grip_18 : decode cX11_grip 18 = .ok (.dup, 1) := by decide +kernel
theorem dX11_grip_19 : decode cX11_grip 19 = .ok (.ldc 218, 2) := by decide +kernel
theorem dX11_grip_21 : decode cX11_grip 21 = .ok (.invokespecial 114, 3) := by decide +kernel
theorem dX11_grip_24 : decode cX11_grip 24 = .ok (.athrow, 1) := by decide +kernel
theorem dX11_grip_25 : decode cX11_grip 25 = .ok (.aload_n 0, 1) := by decide +kernel
theorem dX11_grip_26 : decode cX11_grip 26 = .ok (.iconst 3, 1) := by decide +kernel
theorem dX11_grip_27 : decode cX11_grip 27 = .ok (.iload_n 1, 1) := by decide +kernel
theorem dX11_grip_28 : decode cX11_grip 28 = .ok (.iload_n 2, 1) := by decide +kernel
theorem dX11_grip_29 : decode cX11_grip 29 = .ok (.invokevirtual 214, 3) := by decide +kernel
theorem dX11_grip_32 : decode cX11_grip 32 = .ok (.ireturn, 1) := by decide +kernel
theorem dX11_change_0 : decode cX11_change 0 = .ok (.aload_n 0, 1) := by decide +kernel
theorem dX11_change_1 : decode cX11_change 1 = .ok (.iload_n 1, 1) := by decide +kernel
theorem dX11_change_2 : decode cX11_change 2 = .ok (.iload_n 2, 1) := by decide +kernel
theorem dX11_change_3 : decode cX11_change 3 = .ok (.invokevirtual 220, 3) := by decide +kernel
theorem dX11_change_6 : decode cX11_change 6 = .ok (.aload_n 0, 1) := by decide +kernel
theorem dX11_change_7 : decode cX11_change 7 = .ok (.getfield 19, 3) := by decide +kernel
theorem dX11_change_10 : decode cX11_change 10 = .ok (.getfield 170, 3) := by decide +kernel
theorem dX11_change_13 : decode cX11_change 13 = .ok (.bipush 7, 2) := by decide +kernel
theorem dX11_change_15 : decode cX11_change 15 = .ok (.aaload, 1) := by decide +kernel
theorem dX11_change_16 : decode cX11_change 16 = .ok (.iload_n 1, 1) := by decide +kernel
theorem dX11_change_17 : decode cX11_change 17 = .ok (.iaload, 1) := by decide +kernel
theorem dX11_change_18 : decode cX11_change 18 = .ok (.ifCond .eq 18, 3) := by decide +kernel
theorem dX11_change_21 : decode cX11_change 21 = .ok (.aload_n 0, 1) := by decide +kernel
theorem dX11_change_22 : decode cX11_change 22 = .ok (.getfield 19, 3) := by decide +kernel
theorem dX11_change_25 : decode cX11_change 25 = .ok (.getfield 170, 3) := by decide +kernel
theorem dX11_change_28 : decode cX11_change 28 = .ok (.bipush 7, 2) := by decide +kernel
theorem dX11_change_30 : decode cX11_change 30 = .ok (.aaload, 1) := by decide +kernel
theorem dX11_change_31 : decode cX11_change 31 = .ok (.iload_n 2, 1) := by decide +kernel
theorem dX11_change_32 : decode cX11_change 32 = .ok (.iaload, 1) := by decide +kernel
theorem dX11_change_33 : decode cX11_change 33 = .ok (.ifCond .ne 13, 3) := by decide +kernel
theorem dX11_change_36 : decode cX11_change 36 = .ok (.new 185, 3) := by decide +kernel
theorem dX11_change_39 : decode cX11_change 39 = .ok (.dup, 1) := by decide +kernel
theorem dX11_change_40 : decode cX11_change 40 = .ok (.ldc 224, 2) := by decide +kernel
theorem dX11_change_42 : decode cX11_change 42 = .ok (.invokespecial 189, 3) := by decide +kernel
theorem dX11_change_45 : decode cX11_change 45 = .ok (.athrow, 1) := by decide +kernel
theorem dX11_change_46 : decode cX11_change 46 = .ok (.aload_n 0, 1) := by decide +kernel
theorem dX11_change_47 : decode cX11_change 47 = .ok (.getfield 32, 3) := by decide +kernel
theorem dX11_change_50 : decode cX11_change 50 = .ok (.aload_n 0, 1) := by decide +kernel
theorem dX11_change_51 : decode cX11_change 51 = .ok (.getfield 19, 3) := by decide +kernel
theorem dX11_change_54 : decode cX11_change 54 = .ok (.invokevirtual 175, 3) := by decide +kernel
theorem dX11_change_57 : decode cX11_change 57 = .ok (.aload_n 0, 1) := by decide +kernel
theorem dX11_change_58 : decode cX11_change 58 = .ok (.getfield 19, 3) := by decide +kernel
theorem dX11_change_61 : decode cX11_change 61 = .ok (.getfield 170, 3) := by decide +kernel
theorem dX11_change_64 : decode cX11_change 64 = .ok (.iconst 5, 1) := by decide +kernel
theorem dX11_change_65 : decode cX11_change 65 = .ok (.aaload, 1) := by decide +kernel
theorem dX11_change_66 : decode cX11_change 66 = .ok (.iload_n 2, 1) := by decide +kernel
theorem dX11_change_67 : decode cX11_change 67 = .ok (.iaload, 1) := by decide +kernel
theorem dX11_change_68 : decode cX11_change 68 = .ok (.istore_n 3, 1) := by decide +kernel
theorem dX11_change_69 : decode cX11_change 69 = .ok (.aload_n 0, 1) := by decide +kernel
theorem dX11_change_70 : decode cX11_change 70 = .ok (.getfield 19, 3) := by decide +kernel
theorem dX11_change_73 : decode cX11_change 73 = .ok (.getfield 170, 3) := by decide +kernel
theorem dX11_change_76 : decode cX11_change 76 = .ok (.iconst 5, 1) := by decide +kernel
theorem dX11_change_77 : decode cX11_change 77 = .ok (.aaload, 1) := by decide +kernel
theorem dX11_change_78 : decode cX11_change 78 = .ok (.iload_n 2, 1) := by decide +kernel
theorem dX11_change_79 : decode cX11_change 79 = .ok (.aload_n 0, 1) := by decide +kernel
theorem dX11_change_80 : decode cX11_change 80 = .ok (.getfield 19, 3) := by decide +kernel
theorem dX11_change_83 : decode cX11_change 83 = .ok (.getfield 170, 3) := by decide +kernel
theorem dX11_change_86 : decode cX11_change 86 = .ok (.iconst 5, 1) := by decide +kernel
theorem dX11_change_87 : decode cX11_change 87 = .ok (.aaload, 1) := by decide +kernel
theorem dX11_change_88 : decode cX11_change 88 = .ok (.iload_n 1, 1) := by decide +kernel
theorem dX11_change_89 : decode cX11_change 89 = .ok (.iaload, 1) := by decide +kernel
theorem dX11_change_90 : decode cX11_change 90 = .ok (.iastore, 1) := by decide +kernel
theorem dX11_change_91 : decode cX11_change 91 = .ok (.aload_n 0, 1) := by decide +kernel
theorem dX11_change_92 : decode cX11_change 92 = .ok (.getfield 19, 3) := by decide +kernel
theorem dX11_change_95 : decode cX11_change 95 = .ok (.getfield 170, 3) := by decide +kernel
theorem dX11_change_98 : decode cX11_change 98 = .ok (.iconst 5, 1) := by decide +kernel
theorem dX11_change_99 : decode cX11_change 99 = .ok (.aaload, 1) := by decide +kernel
theorem dX11_change_100 : decode cX11_change 100 = .ok (.iload_n 1, 1) := by decide +kernel
theorem dX11_change_101 : decode cX11_change 101 = .ok (.iload_n 3, 1) := by decide +kernel
theorem dX11_change_102 : decode cX11_change 102 = .ok (.iastore, 1) := by decide +kernel
theorem dX11_change_103 : decode cX11_change 103 = .ok (.iload_n 3, 1) := by decide +kernel
theorem dX11_change_104 : decode cX11_change 104 = .ok (.ireturn, 1) := by decide +kernel
theorem dX11_cut_0 : decode cX11_cut 0 = .ok (.aload_n 0, 1) := by decide +kernel
theorem dX11_cut_1 : decode cX11_cut 1 = .ok (.iload_n 1, 1) := by decide +kernel
theorem dX11_cut_2 : decode cX11_cut 2 = .ok (.invokevirtual 155, 3) := by decide +kernel
theorem dX11_cut_5 : decode cX11_cut 5 = .ok (.aload_n 0, 1) := by decide +kernel
theorem dX11_cut_6 : decode cX11_cut 6 = .ok (.getfield 19, 3) := by decide +kernel
theorem dX11_cut_9 : decode cX11_cut 9 = .ok (.getfield 170, 3) := by decide +kernel
theorem dX11_cut_12 : decode cX11_cut 12 = .ok (.bipush 8, 2) := by decide +kernel
theorem dX11_cut_14 : decode cX11_cut 14 = .ok (.aaload, 1) := by decide +kernel
theorem dX11_cut_15 : decode cX11_cut 15 = .ok (.iload_n 1, 1) := by decide +kernel
theorem dX11_cut_16 : decode cX11_cut 16 = .ok (.iaload, 1) := by decide +kernel
theorem dX11_cut_17 : decode cX11_cut 17 = .ok (.istore_n 2, 1) := by decide +kernel
theorem dX11_cut_18 : decode cX11_cut 18 = .ok (.iload_n 2, 1) := by decide +kernel
theorem dX11_cut_19 : decode cX11_cut 19 = .ok (.iconst (-1), 1) := by decide +kernel
theorem dX11_cut_20 : decode cX11_cut 20 = .ok (.if_icmp .ne 13, 3) := by decide +kernel
theorem dX11_cut_23 : decode cX11_cut 23 = .ok (.new 185, 3) := by decide +kernel
theorem dX11_cut_26 : decode cX11_cut 26 = .ok (.dup, 1) := by decide +kernel
theorem dX11_cut_27 : decode cX11_cut 27 = .ok (.ldc 226, 2) := by decide +kernel
theorem dX11_cut_29 : decode cX11_cut 29 = .ok (.invokespecial 189, 3) := by decide +kernel
theorem dX11_cut_32 : decode cX11_cut 32 = .ok (.athrow, 1) := by decide +kernel
theorem dX11_cut_33 : decode cX11_cut 33 = .ok (.aload_n 0, 1) := by decide +kernel
theorem dX11_cut_34 : decode cX11_cut 34 = .ok (.getfield 32, 3) := by decide +kernel
theorem dX11_cut_37 : decode cX11_cut 37 = .ok (.aload_n 0, 1) := by decide +kernel
theorem dX11_cut_38 : decode cX11_cut 38 = .ok (.getfield 19, 3) := by decide +kernel
theorem dX11_cut_41 : decode cX11_cut 41 = .ok (.invokevirtual 175, 3) := by decide +kernel
theorem dX11_cut_44 : decode cX11_cut 44 = .ok (.aload_n 0, 1) := by decide +kernel
theorem dX11_cut_45 : decode cX11_cut 45 = .ok (.getfield 19, 3) := by decide +kernel
theorem dX11_cut_48 : decode cX11_cut 48 = .ok (.iload_n 1, 1) := by decide +kernel
theorem dX11_cut_49 : decode cX11_cut 49 = .ok (.invokevirtual 228, 3) := by decide +kernel
theorem dX11_cut_52 : decode cX11_cut 52 = .ok (.iload_n 2, 1) := by decide +kernel
theorem dX11_cut_53 : decode cX11_cut 53 = .ok (.ireturn, 1) := by decide +kernel
theorem dX11_moves_0 : decode cX11_moves 0 = .ok (.aload_n 0, 1) := by decide +kernel
theorem dX11_moves_1 : decode cX11_moves 1 = .ok (.iload_n 1, 1) := by decide +kernel
theorem dX11_moves_2 : decode cX11_moves 2 = .ok (.invokevirtual 155, 3) := by decide +kernel
theorem dX11_moves_5 : decode cX11_moves 5 = .ok (.aload_n 0, 1) := by decide +kernel
theorem dX11_moves_6 : decode cX11_moves 6 = .ok (.getfield 19, 3) := by decide +kernel
theorem dX11_moves_9 : decode cX11_moves 9 = .ok (.iload_n 1, 1) := by decide +kernel
theorem dX11_moves_10 : decode cX11_moves 10 = .ok (.invokevirtual 231, 3) := by decide +kernel
theorem dX11_moves_13 : decode cX11_moves 13 = .ok (.istore_n 2, 1) := by decide +kernel
theorem dX11_moves_14 : decode cX11_moves 14 = .ok (.iload_n 2, 1) := by decide +kernel
theorem dX11_moves_15 : decode cX11_moves 15 = .ok (.iconst (-1), 1) := by decide +kernel
theorem dX11_moves_16 : decode cX11_moves 16 = .ok (.if_icmp .ne 7, 3) := by decide +kernel
theorem dX11_moves_19 : decode cX11_moves 19 = .ok (.iconst (-1), 1) := by decide +kernel
theorem dX11_moves_20 : decode cX11_moves 20 = .ok (.goto 11, 3) := by decide +kernel
theorem dX11_moves_23 : decode cX11_moves 23 = .ok (.aload_n 0, 1) := by decide +kernel
theorem dX11_moves_24 : decode cX11_moves 24 = .ok (.getfield 70, 3) := by decide +kernel
theorem dX11_moves_27 : decode cX11_moves 27 = .ok (.iload_n 2, 1) := by decide +kernel
theorem dX11_moves_28 : decode cX11_moves 28 = .ok (.invokevirtual 234, 3) := by decide +kernel
theorem dX11_moves_31 : decode cX11_moves 31 = .ok (.ireturn, 1) := by decide +kernel
theorem dX11_first_0 : decode cX11_first 0 = .ok (.aload_n 0, 1) := by decide +kernel
theorem dX11_first_1 : decode cX11_first 1 = .ok (.iload_n 1, 1) := by decide +kernel
theorem dX11_first_2 : decode cX11_first 2 = .ok (.invokevirtual 155, 3) := by decide +kernel
theorem dX11_first_5 : decode cX11_first 5 = .ok (.aload_n 0, 1) := by decide +kernel
theorem dX11_first_6 : decode cX11_first 6 = .ok (.getfield 19, 3) := by decide +kernel
theorem dX11_first_9 : decode cX11_first 9 = .ok (.iload_n 1, 1) := by decide +kernel
theorem dX11_first_10 : decode cX11_first 10 = .ok (.invokevirtual 231, 3) := by decide +kernel
theorem dX11_first_13 : decode cX11_first 13 = .ok (.istore_n 2, 1) := by decide +kernel
theorem dX11_first_14 : decode cX11_first 14 = .ok (.iload_n 2, 1) := by decide +kernel
theorem dX11_first_15 : decode cX11_first 15 = .ok (.iconst (-1), 1) := by decide +kernel
theorem dX11_first_16 : decode cX11_first 16 = .ok (.if_icmp .ne 7, 3) := by decide +kernel
theorem dX11_first_19 : decode cX11_first 19 = .ok (.iconst (-1), 1) := by decide +kernel
theorem dX11_first_20 : decode cX11_first 20 = .ok (.goto 11, 3) := by decide +kernel
theorem dX11_first_23 : decode cX11_first 23 = .ok (.aload_n 0, 1) := by decide +kernel
theorem dX11_first_24 : decode cX11_first 24 = .ok (.getfield 70, 3) := by decide +kernel
theorem dX11_first_27 : decode cX11_first 27 = .ok (.iload_n 2, 1) := by decide +kernel
theorem dX11_first_28 : decode cX11_first 28 = .ok (.invokevirtual 237, 3) := by decide +kernel
theorem dX11_first_31 : decode cX11_first 31 = .ok (.ireturn, 1) := by decide +kernel
theorem dX11_can_0 : decode cX11_can 0 = .ok (.aload_n 0, 1) := by decide +kernel
theorem dX11_can_1 : decode cX11_can 1 = .ok (.iload_n 1, 1) := by decide +kernel
theorem dX11_can_2 : decode cX11_can 2 = .ok (.invokevirtual 155, 3) := by decide +kernel
theorem dX11_can_5 : decode cX11_can 5 = .ok (.aload_n 0, 1) := by decide +kernel
theorem dX11_can_6 : decode cX11_can 6 = .ok (.getfield 19, 3) := by decide +kernel
theorem dX11_can_9 : decode cX11_can 9 = .ok (.iload_n 1, 1) := by decide +kernel
theorem dX11_can_10 : decode cX11_can 10 = .ok (.invokevirtual 231, 3) := by decide +kernel
theorem dX11_can_13 : decode cX11_can 13 = .ok (.istore_n 2, 1) := by decide +kernel
theorem dX11_can_14 : decode cX11_can 14 = .ok (.iload_n 2, 1) := by decide +kernel
theorem dX11_can_15 : decode cX11_can 15 = .ok (.iconst (-1), 1) := by decide +kernel
theorem dX11_can_16 : decode cX11_can 16 = .ok (.if_icmp .ne 7, 3) := by decide +kernel
theorem dX11_can_19 : decode cX11_can 19 = .ok (.iconst 0, 1) := by decide +kernel
theorem dX11_can_20 : decode cX11_can 20 = .ok (.goto 7, 3) := by decide +kernel
theorem dX11_can_23 : decode cX11_can 23 = .ok (.iload_n 2, 1) := by decide +kernel
theorem dX11_can_24 : decode cX11_can 24 = .ok (.invokestatic 240, 3) := by decide +kernel
theorem dX11_can_27 : decode cX11_can 27 = .ok (.ireturn, 1) := by decide +kernel
theorem dX11_feels_0 : decode cX11_feels 0 = .ok (.aload_n 0, 1) := by decide +kernel
theorem dX11_feels_1 : decode cX11_feels 1 = .ok (.invokevirtual 243, 3) := by decide +kernel
theorem dX11_feels_4 : decode cX11_feels 4 = .ok (.iload_n 1, 1) := by decide +kernel
theorem dX11_feels_5 : decode cX11_feels 5 = .ok (.ifCond .lt 8, 3) := by decide +kernel
theorem dX11_feels_8 : decode cX11_feels 8 = .ok (.iload_n 1, 1) := by decide +kernel
theorem dX11_feels_9 : decode cX11_feels 9 = .ok (.iconst 2, 1) := by decide +kernel
theorem dX11_feels_10 : decode cX11_feels 10 = .ok (.if_icmp .le 13, 3) := by decide +kernel
theorem dX11_feels_13 : decode cX11_feels 13 = .ok (.new 142, 3) := by decide +kernel
theorem dX11_feels_16 : decode cX11_feels 16 = .ok (.dup, 1) := by decide +kernel
theorem dX11_feels_17 : decode cX11_feels 17 = .ok (.ldc 246, 2) := by decide +kernel
theorem dX11_feels_19 : decode cX11_feels 19 = .ok (.invokespecial 146, 3) := by decide +kernel
theorem dX11_feels_22 : decode cX11_feels 22 = .ok (.athrow, 1) := by decide +kernel
theorem dX11_feels_23 : decode cX11_feels 23 = .ok (.aload_n 0, 1) := by decide +kernel
theorem dX11_feels_24 : decode cX11_feels 24 = .ok (.getfield 19, 3) := by decide +kernel
theorem dX11_feels_27 : decode cX11_feels 27 = .ok (.aload_n 0, 1) := by decide +kernel
theorem dX11_feels_28 : decode cX11_feels 28 = .ok (.getfield 10, 3) := by decide +kernel
theorem dX11_feels_31 : decode cX11_feels 31 = .ok (.invokestatic 248, 3) := by decide +kernel
theorem dX11_feels_34 : decode cX11_feels 34 = .ok (.istore_n 2, 1) := by decide +kernel
theorem dX11_feels_35 : decode cX11_feels 35 = .ok (.iload_n 1, 1) := by decide +kernel
theorem dX11_feels_36 : decode cX11_feels 36 = .ok (.lookupswitch 39 #[(0, 28), (1, 30)], 28) := by decide +kernel
theorem dX11_feels_64 : decode cX11_feels 64 = .ok (.iload_n 2, 1) := by decide +kernel
theorem dX11_feels_65 : decode cX11_feels 65 = .ok (.ireturn, 1) := by decide +kernel
theorem dX11_feels_66 : decode cX11_feels 66 = .ok (.aload_n 0, 1) := by decide +kernel
theorem dX11_feels_67 : decode cX11_feels 67 = .ok (.getfield 19, 3) := by decide +kernel
theorem dX11_feels_70 : decode cX11_feels 70 = .ok (.iload_n 2, 1) := by decide +kernel
theorem dX11_feels_71 : decode cX11_feels 71 = .ok (.invokestatic 254, 3) := by decide +kernel
theorem dX11_feels_74 : decode cX11_feels 74 = .ok (.ireturn, 1) := by decide +kernel
theorem dX11_feels_75 : decode cX11_feels 75 = .ok (.aload_n 0, 1) := by decide +kernel
theorem dX11_feels_76 : decode cX11_feels 76 = .ok (.getfield 19, 3) := by decide +kernel
theorem dX11_feels_79 : decode cX11_feels 79 = .ok (.iload_n 2, 1) := by decide +kernel
theorem dX11_feels_80 : decode cX11_feels 80 = .ok (.invokestatic 257, 3) := by decide +kernel
theorem dX11_feels_83 : decode cX11_feels 83 = .ok (.ireturn, 1) := by decide +kernel
theorem dX11_odds_0 : decode cX11_odds 0 = .ok (.aload_n 0, 1) := by decide +kernel
theorem dX11_odds_1 : decode cX11_odds 1 = .ok (.invokevirtual 260, 3) := by decide +kernel
theorem dX11_odds_4 : decode cX11_odds 4 = .ok (.istore_n 2, 1) := by decide +kernel
theorem dX11_odds_5 : decode cX11_odds 5 = .ok (.iload_n 1, 1) := by decide +kernel
theorem dX11_odds_6 : decode cX11_odds 6 = .ok (.ifCond .lt 9, 3) := by decide +kernel
theorem dX11_odds_9 : decode cX11_odds 9 = .ok (.iload_n 1, 1) := by decide +kernel
theorem dX11_odds_10 : decode cX11_odds 10 = .ok (.bipush 8, 2) := by decide +kernel
theorem dX11_odds_12 : decode cX11_odds 12 = .ok (.if_icmp .le 14, 3) := by decide +kernel
theorem dX11_odds_15 : decode cX11_odds 15 = .ok (.new 197, 3) := by decide +kernel
theorem dX11_odds_18 : decode cX11_odds 18 = .ok (.dup, 1) := by decide +kernel
theorem dX11_odds_19 : decode cX11_odds 19 = .ok (.ldc_w 264, 3) := by decide +kernel
theorem dX11_odds_22 : decode cX11_odds 22 = .ok (.invokespecial 201, 3) := by decide +kernel
theorem dX11_odds_25 : decode cX11_odds 25 = .ok (.athrow, 1) := by decide +kernel
theorem dX11_odds_26 : decode cX11_odds 26 = .ok (.iload_n 2, 1) := by decide +kernel
theorem dX11_odds_27 : decode cX11_odds 27 = .ok (.ifCond .ne 14, 3) := by decide +kernel
theorem dX11_odds_30 : decode cX11_odds 30 = .ok (.new 110, 3) := by decide +kernel
theorem dX11_odds_33 : decode cX11_odds 33 = .ok (.dup, 1) := by decide +kernel
theorem dX11_odds_34 : decode cX11_odds 34 = .ok (.ldc_w 266, 3) := by decide +kernel
theorem dX11_odds_37 : decode cX11_odds 37 = .ok (.invokespecial 114, 3) := by decide +kernel
theorem dX11_odds_40 : decode cX11_odds 40 = .ok (.athrow, 1) := by decide +kernel
theorem dX11_odds_41 : decode cX11_odds 41 = .ok (.aload_n 0, 1) := by decide +kernel
theorem dX11_odds_42 : decode cX11_odds 42 = .ok (.getfield 19, 3) := by decide +kernel
theorem dX11_odds_45 : decode cX11_odds 45 = .ok (.aload_n 0, 1) := by decide +kernel
theorem dX11_odds_46 : decode cX11_odds 46 = .ok (.getfield 19, 3) := by decide +kernel
theorem dX11_odds_49 : decode cX11_odds 49 = .ok (.aload_n 0, 1) := by decide +kernel
theorem dX11_odds_50 : decode cX11_odds 50 = .ok (.getfield 10, 3) := by decide +kernel
theorem dX11_odds_53 : decode cX11_odds 53 = .ok (.invokestatic 248, 3) := by decide +kernel
theorem dX11_odds_56 : decode cX11_odds 56 = .ok (.iload_n 1, 1) := by decide +kernel
theorem dX11_odds_57 : decode cX11_odds 57 = .ok (.invokestatic 268, 3) := by decide +kernel
theorem dX11_odds_60 : decode cX11_odds 60 = .ok (.ireturn, 1) := by decide +kernel
theorem dX11_ask_0 : decode cX11_ask 0 = .ok (.aload_n 0, 1) := by decide +kernel
theorem dX11_ask_1 : decode cX11_ask 1 = .ok (.invokevirtual 243, 3) := by decide +kernel
theorem dX11_ask_4 : decode cX11_ask 4 = .ok (.aload_n 0, 1) := by decide +kernel
theorem dX11_ask_5 : decode cX11_ask 5 = .ok (.getfield 19, 3) := by decide +kernel
theorem dX11_ask_8 : decode cX11_ask 8 = .ok (.aload_n 0, 1) := by decide +kernel
theorem dX11_ask_9 : decode cX11_ask 9 = .ok (.getfield 19, 3) := by decide +kernel
theorem dX11_ask_12 : decode cX11_ask 12 = .ok (.aload_n 0, 1) := by decide +kernel
theorem dX11_ask_13 : decode cX11_ask 13 = .ok (.getfield 10, 3) := by decide +kernel
theorem dX11_ask_16 : decode cX11_ask 16 = .ok (.invokestatic 248, 3) := by decide +kernel
theorem dX11_ask_19 : decode cX11_ask 19 = .ok (.invokestatic 272, 3) := by decide +kernel
theorem dX11_ask_22 : decode cX11_ask 22 = .ok (.ireturn, 1) := by decide +kernel
theorem dX11_waits_0 : decode cX11_waits 0 = .ok (.aload_n 0, 1) := by decide +kernel
theorem dX11_waits_1 : decode cX11_waits 1 = .ok (.iload_n 1, 1) := by decide +kernel
theorem dX11_waits_2 : decode cX11_waits 2 = .ok (.invokevirtual 155, 3) := by decide +kernel
theorem dX11_waits_5 : decode cX11_waits 5 = .ok (.aload_n 0, 1) := by decide +kernel
theorem dX11_waits_6 : decode cX11_waits 6 = .ok (.getfield 23, 3) := by decide +kernel
theorem dX11_waits_9 : decode cX11_waits 9 = .ok (.aload_n 0, 1) := by decide +kernel
theorem dX11_waits_10 : decode cX11_waits 10 = .ok (.getfield 19, 3) := by decide +kernel
theorem dX11_waits_13 : decode cX11_waits 13 = .ok (.invokevirtual 103, 3) := by decide +kernel
theorem dX11_waits_16 : decode cX11_waits 16 = .ok (.iconst 0, 1) := by decide +kernel
theorem dX11_waits_17 : decode cX11_waits 17 = .ok (.istore_n 2, 1) := by decide +kernel
theorem dX11_waits_18 : decode cX11_waits 18 = .ok (.iload_n 2, 1) := by decide +kernel
theorem dX11_waits_19 : decode cX11_waits 19 = .ok (.bipush 100, 2) := by decide +kernel
theorem dX11_waits_21 : decode cX11_waits 21 = .ok (.if_icmp .gt 39, 3) := by decide +kernel
theorem dX11_waits_24 : decode cX11_waits 24 = .ok (.aload_n 0, 1) := by decide +kernel
theorem dX11_waits_25 : decode cX11_waits 25 = .ok (.getfield 23, 3) := by decide +kernel
theorem dX11_waits_28 : decode cX11_waits 28 = .ok (.getfield 170, 3) := by decide +kernel
theorem dX11_waits_31 : decode cX11_waits 31 = .ok (.bipush 7, 2) := by decide +kernel
theorem dX11_waits_33 : decode cX11_waits 33 = .ok (.aaload, 1) := by decide +kernel
theorem dX11_waits_34 : decode cX11_waits 34 = .ok (.iload_n 1, 1) := by decide +kernel
theorem dX11_waits_35 : decode cX11_waits 35 = .ok (.iaload, 1) := by decide +kernel
theorem dX11_waits_36 : decode cX11_waits 36 = .ok (.ifCond .eq 5, 3) := by decide +kernel
theorem dX11_waits_39 : decode cX11_waits 39 = .ok (.iload_n 2, 1) := by decide +kernel
theorem dX11_waits_40 : decode cX11_waits 40 = .ok (.ireturn, 1) := by decide +kernel
theorem dX11_waits_41 : decode cX11_waits 41 = .ok (.aload_n 0, 1) := by decide +kernel
theorem dX11_waits_42 : decode cX11_waits 42 = .ok (.getfield 23, 3) := by decide +kernel
theorem dX11_waits_45 : decode cX11_waits 45 = .ok (.aload_n 0, 1) := by decide +kernel
theorem dX11_waits_46 : decode cX11_waits 46 = .ok (.getfield 39, 3) := by decide +kernel
theorem dX11_waits_49 : decode cX11_waits 49 = .ok (.iconst 0, 1) := by decide +kernel
theorem dX11_waits_50 : decode cX11_waits 50 = .ok (.invokevirtual 178, 3) := by decide +kernel
theorem dX11_waits_53 : decode cX11_waits 53 = .ok (.pop, 1) := by decide +kernel
theorem dX11_waits_54 : decode cX11_waits 54 = .ok (.iinc 2 1, 3) := by decide +kernel
theorem dX11_waits_57 : decode cX11_waits 57 = .ok (.goto (-39), 3) := by decide +kernel
theorem dX11_waits_60 : decode cX11_waits 60 = .ok (.iconst (-1), 1) := by decide +kernel
theorem dX11_waits_61 : decode cX11_waits 61 = .ok (.ireturn, 1) := by decide +kernel
theorem dX11_next_0 : decode cX11_next 0 = .ok (.aload_n 0, 1) := by decide +kernel
theorem dX11_next_1 : decode cX11_next 1 = .ok (.getfield 23, 3) := by decide +kernel
theorem dX11_next_4 : decode cX11_next 4 = .ok (.aload_n 0, 1) := by decide +kernel
theorem dX11_next_5 : decode cX11_next 5 = .ok (.getfield 19, 3) := by decide +kernel
theorem dX11_next_8 : decode cX11_next 8 = .ok (.invokevirtual 103, 3) := by decide +kernel
theorem dX11_next_11 : decode cX11_next 11 = .ok (.iconst 1, 1) := by decide +kernel
theorem dX11_next_12 : decode cX11_next 12 = .ok (.istore_n 1, 1) := by decide +kernel
theorem dX11_next_13 : decode cX11_next 13 = .ok (.iload_n 1, 1) := by decide +kernel
theorem dX11_next_14 : decode cX11_next 14 = .ok (.bipush 100, 2) := by decide +kernel
theorem dX11_next_16 : decode cX11_next 16 = .ok (.if_icmp .gt 53, 3) := by decide +kernel
theorem dX11_next_19 : decode cX11_next 19 = .ok (.aload_n 0, 1) := by decide +kernel
theorem dX11_next_20 : decode cX11_next 20 = .ok (.getfield 23, 3) := by decide +kernel
theorem dX11_next_23 : decode cX11_next 23 = .ok (.aload_n 0, 1) := by decide +kernel
theorem dX11_next_24 : decode cX11_next 24 = .ok (.getfield 39, 3) := by decide +kernel
theorem dX11_next_27 : decode cX11_next 27 = .ok (.iconst 0, 1) := by decide +kernel
theorem dX11_next_28 : decode cX11_next 28 = .ok (.invokevirtual 178, 3) := by decide +kernel
theorem dX11_next_31 : decode cX11_next 31 = .ok (.ifCond .le 32, 3) := by decide +kernel
theorem dX11_next_34 : decode cX11_next 34 = .ok (.aload_n 0, 1) := by decide +kernel
theorem dX11_next_35 : decode cX11_next 35 = .ok (.getfield 23, 3) := by decide +kernel
theorem dX11_next_38 : decode cX11_next 38 = .ok (.bipush 7, 2) := by decide +kernel
theorem dX11_next_40 : decode cX11_next 40 = .ok (.iconst 1, 1) := by decide +kernel
theorem dX11_next_41 : decode cX11_next 41 = .ok (.invokevirtual 275, 3) := by decide +kernel
theorem dX11_next_44 : decode cX11_next 44 = .ok (.aload_n 0, 1) := by decide +kernel
theorem dX11_next_45 : decode cX11_next 45 = .ok (.getfield 19, 3) := by decide +kernel
theorem dX11_next_48 : decode cX11_next 48 = .ok (.bipush 7, 2) := by decide +kernel
theorem dX11_next_50 : decode cX11_next 50 = .ok (.iconst 1, 1) := by decide +kernel
theorem dX11_next_51 : decode cX11_next 51 = .ok (.invokevirtual 275, 3) := by decide +kernel
theorem dX11_next_54 : decode cX11_next 54 = .ok (.iconst (-1), 1) := by decide +kernel
theorem dX11_next_55 : decode cX11_next 55 = .ok (.ixor, 1) := by decide +kernel
theorem dX11_next_56 : decode cX11_next 56 = .ok (.iand, 1) := by decide +kernel
theorem dX11_next_57 : decode cX11_next 57 = .ok (.istore_n 2, 1) := by decide +kernel
theorem dX11_next_58 : decode cX11_next 58 = .ok (.iload_n 2, 1) := by decide +kernel
theorem dX11_next_59 : decode cX11_next 59 = .ok (.invokestatic 279, 3) := by decide +kernel
theorem dX11_next_62 : decode cX11_next 62 = .ok (.ireturn, 1) := by decide +kernel
theorem dX11_next_63 : decode cX11_next 63 = .ok (.iinc 1 1, 3) := by decide +kernel
theorem dX11_next_66 : decode cX11_next 66 = .ok (.goto (-53), 3) := by decide +kernel
theorem dX11_next_69 : decode cX11_next 69 = .ok (.iconst (-1), 1) := by decide +kernel
theorem dX11_next_70 : decode cX11_next 70 = .ok (.ireturn, 1) := by decide +kernel
theorem dX11_keep_0 : decode cX11_keep 0 = .ok (.iload_n 1, 1) := by decide +kernel
theorem dX11_keep_1 : decode cX11_keep 1 = .ok (.invokestatic 282, 3) := by decide +kernel
theorem dX11_keep_4 : decode cX11_keep 4 = .ok (.aload_n 0, 1) := by decide +kernel
theorem dX11_keep_5 : decode cX11_keep 5 = .ok (.iload_n 1, 1) := by decide +kernel
theorem dX11_keep_6 : decode cX11_keep 6 = .ok (.invokevirtual 285, 3) := by decide +kernel
theorem dX11_keep_9 : decode cX11_keep 9 = .ok (.aload_n 0, 1) := by decide +kernel
theorem dX11_keep_10 : decode cX11_keep 10 = .ok (.getfield 23, 3) := by decide +kernel
theorem dX11_keep_13 : decode cX11_keep 13 = .ok (.bipush 7, 2) := by decide +kernel
theorem dX11_keep_15 : decode cX11_keep 15 = .ok (.iconst 0, 1) := by decide +kernel
theorem dX11_keep_16 : decode cX11_keep 16 = .ok (.invokevirtual 288, 3) := by decide +kernel
theorem dX11_keep_19 : decode cX11_keep 19 = .ok (.ireturn, 1) := by decide +kernel
theorem dX11_fates_0 : decode cX11_fates 0 = .ok (.iload_n 1, 1) := by decide +kernel
