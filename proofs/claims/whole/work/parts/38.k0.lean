def ct_perm : List Nat := [0, 1, 2, 3, 4, 5, 6, 7, 8, 9, 10, 11, 12, 13, 14, 15, 16, 17, 18, 19, 20, 21, 22, 23, 24, 25, 26, 27, 28, 29, 30, 31, 32, 33, 34, 35, 36, 37, 38, 39, 40, 41, 42, 43, 44, 45]
theorem cinst_0 : Cond.instantiable "ShutFists$Guesses" 3 ∈ am_T := am_inT2 3 (by decide +kernel) rfl
theorem cinst_1 : Cond.instantiable "ShutFists$Knots" 3 ∈ am_T := am_inT1 205 (by decide +kernel) rfl
theorem cinst_2 : Cond.instantiable "ShutFists$Law" 8 ∈ am_T := am_inT1 133 (by decide +kernel) rfl
theorem cinst_3 : Cond.instantiable "ShutFists$LawText" 5 ∈ am_T := am_inT1 191 (by decide +kernel) rfl
theorem cinst_4 : Cond.instantiable "ShutFists$Market" 4 ∈ am_T := am_inT1 221 (by decide +kernel) rfl
theorem cinst_5 : Cond.instantiable "ShutFists$ParishText" 5 ∈ am_T := am_inT1 166 (by decide +kernel) rfl
theorem cinst_6 : Cond.instantiable "ShutFists$Past" 3 ∈ am_T := am_inT1 113 (by decide +kernel) rfl
theorem cinst_7 : Cond.instantiable "ShutFists$State" 8 ∈ am_T := am_inT1 61 (by decide +kernel) rfl
theorem cinst_8 : Cond.instantiable "ShutFists$Tape" 3 ∈ am_T := am_inT1 38 (by decide +kernel) rfl
theorem cinst_9 : Cond.instantiable "ShutFists" 15 ∈ am_T := am_inT1 30 (by decide +kernel) rfl
theorem cinst_10 : Cond.instantiable "ShutFistsModel" 26 ∈ am_T := am_inT6 138 (by decide +kernel) rfl
theorem ca_int : Cond.arrayClass .int ∈ am_T := am_inT1 59 (by decide +kernel) rfl
theorem ca_byte : Cond.arrayClass .byte ∈ am_T := am_inT4 60 (by decide +kernel) rfl
theorem ca_boolean : Cond.arrayClass .boolean ∈ am_T := am_inT1 164 (by decide +kernel) rfl
theorem ca_long : Cond.arrayClass .long ∈ am_T := am_inT9 142 (by decide +kernel) rfl
theorem cl_aoa_ : Cond.arrayOver (.array .int) ∈ tables_1_1 := List.mem_of_getElem? (i := 67) (by decide +kernel)
theorem cl_aoa : Cond.arrayOver (.array .int) ∈ lw_tbl := List.mem_append_right _ (show _ ∈ tables_1 from List.mem_append_left _ (cl_aoa_))
theorem cl_ao_ : Cond.arrayOver (.object "ShutFists$State") ∈ tables_1_1 := List.mem_of_getElem? (i := 119) (by decide +kernel)
theorem cl_ao : Cond.arrayOver (.object "ShutFists$State") ∈ lw_tbl := List.mem_append_right _ (show _ ∈ tables_1 from List.mem_append_left _ (cl_ao_))
theorem cl_us_ : Cond.laysStatic "java/lang/Throwable" "UNASSIGNED_STACK" "[Ljava/lang/StackTraceElement;" ∈ tables_1_4 := List.mem_of_getElem? (i := 18) (by decide +kernel)
theorem cl_us : Cond.laysStatic "java/lang/Throwable" "UNASSIGNED_STACK" "[Ljava/lang/StackTraceElement;" ∈ lw_tbl := List.mem_append_right _ (show _ ∈ tables_1 from List.mem_append_right _ (List.mem_append_right _ (List.mem_append_right _ (List.mem_append_left _ (cl_us_)))))
theorem cl_ss_ : Cond.laysStatic "java/lang/Throwable" "SUPPRESSED_SENTINEL" "Ljava/util/List;" ∈ tables_1_4 := List.mem_of_getElem? (i := 20) (by decide +kernel)
theorem cl_ss : Cond.laysStatic "java/lang/Throwable" "SUPPRESSED_SENTINEL" "Ljava/util/List;" ∈ lw_tbl := List.mem_append_right _ (show _ ∈ tables_1 from List.mem_append_right _ (List.mem_append_right _ (List.mem_append_right _ (List.mem_append_left _ (cl_ss_)))))
theorem cl_cs_ : Cond.laysStatic "java/lang/String" "COMPACT_STRINGS" "Z" ∈ tables_1_3 := List.mem_of_getElem? (i := 69) (by decide +kernel)
theorem cl_cs : Cond.laysStatic "java/lang/String" "COMPACT_STRINGS" "Z" ∈ lw_tbl := List.mem_append_right _ (show _ ∈ tables_1 from List.mem_append_right _ (List.mem_append_right _ (List.mem_append_left _ (cl_cs_))))
theorem cl_pf_ : Cond.laysStatic "jdk/internal/util/Preconditions" "SIOOBE_FORMATTER" "Ljava/util/function/BiFunction;" ∈ tables_1_3 := List.mem_of_getElem? (i := 85) (by decide +kernel)
theorem cl_pf : Cond.laysStatic "jdk/internal/util/Preconditions" "SIOOBE_FORMATTER" "Ljava/util/function/BiFunction;" ∈ lw_tbl := List.mem_append_right _ (show _ ∈ tables_1 from List.mem_append_right _ (List.mem_append_right _ (List.mem_append_left _ (cl_pf_))))
theorem cini_T_ : Cond.initialized "java/lang/Throwable" ∈ tables_1_1 := List.mem_of_getElem? (i := 19) (by decide +kernel)
theorem cini_T : Cond.initialized "java/lang/Throwable" ∈ lw_tbl := List.mem_append_right _ (show _ ∈ tables_1 from List.mem_append_left _ (cini_T_))
theorem cini_S_ : Cond.initialized "java/lang/String" ∈ tables_1_1 := List.mem_of_getElem? (i := 15) (by decide +kernel)
theorem cini_S : Cond.initialized "java/lang/String" ∈ lw_tbl := List.mem_append_right _ (show _ ∈ tables_1 from List.mem_append_left _ (cini_S_))
theorem cini_P_ : Cond.initialized "jdk/internal/util/Preconditions" ∈ tables_1_1 := List.mem_of_getElem? (i := 17) (by decide +kernel)
theorem cini_P : Cond.initialized "jdk/internal/util/Preconditions" ∈ lw_tbl := List.mem_append_right _ (show _ ∈ tables_1 from List.mem_append_left _ (cini_P_))
theorem csr_0_ : Cond.stringRef (am_sow 0) (am_six 0) (am_stx 0) ∈ tables_1_3 := List.mem_of_getElem? (i := 59) (by decide +kernel)
theorem csr_0 : Cond.stringRef (am_sow 0) (am_six 0) (am_stx 0) ∈ lw_tbl := List.mem_append_right _ (show _ ∈ tables_1 from List.mem_append_right _ (List.mem_append_right _ (List.mem_append_left _ (csr_0_))))
theorem csr_1_ : Cond.stringRef (am_sow 1) (am_six 1) (am_stx 1) ∈ tables_1_4 := List.mem_of_getElem? (i := 34) (by decide +kernel)
theorem csr_1 : Cond.stringRef (am_sow 1) (am_six 1) (am_stx 1) ∈ lw_tbl := List.mem_append_right _ (show _ ∈ tables_1 from List.mem_append_right _ (List.mem_append_right _ (List.mem_append_right _ (List.mem_append_left _ (csr_1_)))))
theorem csr_2_ : Cond.stringRef (am_sow 2) (am_six 2) (am_stx 2) ∈ tables_1_4 := List.mem_of_getElem? (i := 70) (by decide +kernel)
theorem csr_2 : Cond.stringRef (am_sow 2) (am_six 2) (am_stx 2) ∈ lw_tbl := List.mem_append_right _ (show _ ∈ tables_1 from List.mem_append_right _ (List.mem_append_right _ (List.mem_append_right _ (List.mem_append_left _ (csr_2_)))))
theorem csr_3_ : Cond.stringRef (am_sow 3) (am_six 3) (am_stx 3) ∈ tables_1_4 := List.mem_of_getElem? (i := 91) (by decide +kernel)
theorem csr_3 : Cond.stringRef (am_sow 3) (am_six 3) (am_stx 3) ∈ lw_tbl := List.mem_append_right _ (show _ ∈ tables_1 from List.mem_append_right _ (List.mem_append_right _ (List.mem_append_right _ (List.mem_append_left _ (csr_3_)))))
theorem csr_4_ : Cond.stringRef (am_sow 4) (am_six 4) (am_stx 4) ∈ tables_1_4 := List.mem_of_getElem? (i := 113) (by decide +kernel)
theorem csr_4 : Cond.stringRef (am_sow 4) (am_six 4) (am_stx 4) ∈ lw_tbl := List.mem_append_right _ (show _ ∈ tables_1 from List.mem_append_right _ (List.mem_append_right _ (List.mem_append_right _ (List.mem_append_left _ (csr_4_)))))
theorem csr_5_ : Cond.stringRef (am_sow 5) (am_six 5) (am_stx 5) ∈ tables_1_4 := List.mem_of_getElem? (i := 129) (by decide +kernel)
theorem csr_5 : Cond.stringRef (am_sow 5) (am_six 5) (am_stx 5) ∈ lw_tbl := List.mem_append_right _ (show _ ∈ tables_1 from List.mem_append_right _ (List.mem_append_right _ (List.mem_append_right _ (List.mem_append_left _ (csr_5_)))))
theorem csr_6_ : Cond.stringRef (am_sow 6) (am_six 6) (am_stx 6) ∈ tables_1_4 := List.mem_of_getElem? (i := 152) (by decide +kernel)
theorem csr_6 : Cond.stringRef (am_sow 6) (am_six 6) (am_stx 6) ∈ lw_tbl := List.mem_append_right _ (show _ ∈ tables_1 from List.mem_append_right _ (List.mem_append_right _ (List.mem_append_right _ (List.mem_append_left _ (csr_6_)))))
theorem csr_7_ : Cond.stringRef (am_sow 7) (am_six 7) (am_stx 7) ∈ tables_1_4 := List.mem_of_getElem? (i := 153) (by decide +kernel)
theorem csr_7 : Cond.stringRef (am_sow 7) (am_six 7) (am_stx 7) ∈ lw_tbl := List.mem_append_right _ (show _ ∈ tables_1 from List.mem_append_right _ (List.mem_append_right _ (List.mem_append_right _ (List.mem_append_left _ (csr_7_)))))
theorem csr_8_ : Cond.stringRef (am_sow 8) (am_six 8) (am_stx 8) ∈ tables_1_4 := List.mem_of_getElem? (i := 168) (by decide +kernel)
theorem csr_8 : Cond.stringRef (am_sow 8) (am_six 8) (am_stx 8) ∈ lw_tbl := List.mem_append_right _ (show _ ∈ tables_1 from List.mem_append_right _ (List.mem_append_right _ (List.mem_append_right _ (List.mem_append_left _ (csr_8_)))))
theorem csr_9_ : Cond.stringRef (am_sow 9) (am_six 9) (am_stx 9) ∈ tables_1_4 := List.mem_of_getElem? (i := 190) (by decide +kernel)
theorem csr_9 : Cond.stringRef (am_sow 9) (am_six 9) (am_stx 9) ∈ lw_tbl := List.mem_append_right _ (show _ ∈ tables_1 from List.mem_append_right _ (List.mem_append_right _ (List.mem_append_right _ (List.mem_append_left _ (csr_9_)))))
theorem csr_10_ : Cond.stringRef (am_sow 10) (am_six 10) (am_stx 10) ∈ tables_1_4 := List.mem_of_getElem? (i := 210) (by decide +kernel)
theorem csr_10 : Cond.stringRef (am_sow 10) (am_six 10) (am_stx 10) ∈ lw_tbl := List.mem_append_right _ (show _ ∈ tables_1 from List.mem_append_right _ (List.mem_append_right _ (List.mem_append_right _ (List.mem_append_left _ (csr_10_)))))
theorem csr_11_ : Cond.stringRef (am_sow 11) (am_six 11) (am_stx 11) ∈ tables_1_4 := List.mem_of_getElem? (i := 218) (by decide +kernel)
theorem csr_11 : Cond.stringRef (am_sow 11) (am_six 11) (am_stx 11) ∈ lw_tbl := List.mem_append_right _ (show _ ∈ tables_1 from List.mem_append_right _ (List.mem_append_right _ (List.mem_append_right _ (List.mem_append_left _ (csr_11_)))))
theorem csr_12_ : Cond.stringRef (am_sow 12) (am_six 12) (am_stx 12) ∈ tables_1_4 := List.mem_of_getElem? (i := 234) (by decide +kernel)
theorem csr_12 : Cond.stringRef (am_sow 12) (am_six 12) (am_stx 12) ∈ lw_tbl := List.mem_append_right _ (show _ ∈ tables_1 from List.mem_append_right _ (List.mem_append_right _ (List.mem_append_right _ (List.mem_append_left _ (csr_12_)))))
theorem csr_13_ : Cond.stringRef (am_sow 13) (am_six 13) (am_stx 13) ∈ tables_1_5 := List.mem_of_getElem? (i := 13) (by decide +kernel)
theorem csr_13 : Cond.stringRef (am_sow 13) (am_six 13) (am_stx 13) ∈ lw_tbl := List.mem_append_right _ (show _ ∈ tables_1 from List.mem_append_right _ (List.mem_append_right _ (List.mem_append_right _ (List.mem_append_right _ (List.mem_append_left _ (csr_13_))))))
theorem csr_14_ : Cond.stringRef (am_sow 14) (am_six 14) (am_stx 14) ∈ tables_1_5 := List.mem_of_getElem? (i := 25) (by decide +kernel)
theorem csr_14 : Cond.stringRef (am_sow 14) (am_six 14) (am_stx 14) ∈ lw_tbl := List.mem_append_right _ (show _ ∈ tables_1 from List.mem_append_right _ (List.mem_append_right _ (List.mem_append_right _ (List.mem_append_right _ (List.mem_append_left _ (csr_14_))))))
theorem csr_15_ : Cond.stringRef (am_sow 15) (am_six 15) (am_stx 15) ∈ tables_1_5 := List.mem_of_getElem? (i := 26) (by decide +kernel)
theorem csr_15 : Cond.stringRef (am_sow 15) (am_six 15) (am_stx 15) ∈ lw_tbl := List.mem_append_right _ (show _ ∈ tables_1 from List.mem_append_right _ (List.mem_append_right _ (List.mem_append_right _ (List.mem_append_right _ (List.mem_append_left _ (csr_15_))))))
theorem csr_16_ : Cond.stringRef (am_sow 16) (am_six 16) (am_stx 16) ∈ tables_1_5 := List.mem_of_getElem? (i := 34) (by decide +kernel)
theorem csr_16 : Cond.stringRef (am_sow 16) (am_six 16) (am_stx 16) ∈ lw_tbl := List.mem_append_right _ (show _ ∈ tables_1 from List.mem_append_right _ (List.mem_append_right _ (List.mem_append_right _ (List.mem_append_right _ (List.mem_append_left _ (csr_16_))))))
theorem csr_17_ : Cond.stringRef (am_sow 17) (am_six 17) (am_stx 17) ∈ tables_1_5 := List.mem_of_getElem? (i := 113) (by decide +kernel)
theorem csr_17 : Cond.stringRef (am_sow 17) (am_six 17) (am_stx 17) ∈ lw_tbl := List.mem_append_right _ (show _ ∈ tables_1 from List.mem_append_right _ (List.mem_append_right _ (List.mem_append_right _ (List.mem_append_right _ (List.mem_append_left _ (csr_17_))))))
theorem csr_18_ : Cond.stringRef (am_sow 18) (am_six 18) (am_stx 18) ∈ tables_1_5 := List.mem_of_getElem? (i := 114) (by decide +kernel)
theorem csr_18 : Cond.stringRef (am_sow 18) (am_six 18) (am_stx 18) ∈ lw_tbl := List.mem_append_right _ (show _ ∈ tables_1 from List.mem_append_right _ (List.mem_append_right _ (List.mem_append_right _ (List.mem_append_right _ (List.mem_append_left _ (csr_18_))))))
theorem csr_19_ : Cond.stringRef (am_sow 19) (am_six 19) (am_stx 19) ∈ tables_1_5 := List.mem_of_getElem? (i := 186) (by decide +kernel)
theorem csr_19 : Cond.stringRef (am_sow 19) (am_six 19) (am_stx 19) ∈ lw_tbl := List.mem_append_right _ (show _ ∈ tables_1 from List.mem_append_right _ (List.mem_append_right _ (List.mem_append_right _ (List.mem_append_right _ (List.mem_append_left _ (csr_19_))))))
theorem csr_20_ : Cond.stringRef (am_sow 20) (am_six 20) (am_stx 20) ∈ tables_1_6 := List.mem_of_getElem? (i := 32) (by decide +kernel)
theorem csr_20 : Cond.stringRef (am_sow 20) (am_six 20) (am_stx 20) ∈ lw_tbl := List.mem_append_right _ (show _ ∈ tables_1 from List.mem_append_right _ (List.mem_append_right _ (List.mem_append_right _ (List.mem_append_right _ (List.mem_append_right _ (List.mem_append_left _ (csr_20_)))))))
theorem csr_21_ : Cond.stringRef (am_sow 21) (am_six 21) (am_stx 21) ∈ tables_1_6 := List.mem_of_getElem? (i := 88) (by decide +kernel)
theorem csr_21 : Cond.stringRef (am_sow 21) (am_six 21) (am_stx 21) ∈ lw_tbl := List.mem_append_right _ (show _ ∈ tables_1 from List.mem_append_right _ (List.mem_append_right _ (List.mem_append_right _ (List.mem_append_right _ (List.mem_append_right _ (List.mem_append_left _ (csr_21_)))))))
theorem csr_22_ : Cond.stringRef (am_sow 22) (am_six 22) (am_stx 22) ∈ tables_1_6 := List.mem_of_getElem? (i := 132) (by decide +kernel)
theorem csr_22 : Cond.stringRef (am_sow 22) (am_six 22) (am_stx 22) ∈ lw_tbl := List.mem_append_right _ (show _ ∈ tables_1 from List.mem_append_right _ (List.mem_append_right _ (List.mem_append_right _ (List.mem_append_right _ (List.mem_append_right _ (List.mem_append_left _ (csr_22_)))))))
theorem csr_23_ : Cond.stringRef (am_sow 23) (am_six 23) (am_stx 23) ∈ tables_1_7 := List.mem_of_getElem? (i := 41) (by decide +kernel)
theorem csr_23 : Cond.stringRef (am_sow 23) (am_six 23) (am_stx 23) ∈ lw_tbl := List.mem_append_right _ (show _ ∈ tables_1 from List.mem_append_right _ (List.mem_append_right _ (List.mem_append_right _ (List.mem_append_right _ (List.mem_append_right _ (List.mem_append_right _ (List.mem_append_left _ (csr_23_))))))))
theorem csr_24_ : Cond.stringRef (am_sow 24) (am_six 24) (am_stx 24) ∈ tables_1_7 := List.mem_of_getElem? (i := 59) (by decide +kernel)
theorem csr_24 : Cond.stringRef (am_sow 24) (am_six 24) (am_stx 24) ∈ lw_tbl := List.mem_append_right _ (show _ ∈ tables_1 from List.mem_append_right _ (List.mem_append_right _ (List.mem_append_right _ (List.mem_append_right _ (List.mem_append_right _ (List.mem_append_right _ (List.mem_append_left _ (csr_24_))))))))
theorem csr_25_ : Cond.stringRef (am_sow 25) (am_six 25) (am_stx 25) ∈ tables_1_7 := List.mem_of_getElem? (i := 68) (by decide +kernel)
theorem csr_25 : Cond.stringRef (am_sow 25) (am_six 25) (am_stx 25) ∈ lw_tbl := List.mem_append_right _ (show _ ∈ tables_1 from List.mem_append_right _ (List.mem_append_right _ (List.mem_append_right _ (List.mem_append_right _ (List.mem_append_right _ (List.mem_append_right _ (List.mem_append_left _ (csr_25_))))))))
theorem csr_26_ : Cond.stringRef (am_sow 26) (am_six 26) (am_stx 26) ∈ tables_1_7 := List.mem_of_getElem? (i := 69) (by decide +kernel)
theorem csr_26 : Cond.stringRef (am_sow 26) (am_six 26) (am_stx 26) ∈ lw_tbl := List.mem_append_right _ (show _ ∈ tables_1 from List.mem_append_right _ (List.mem_append_right _ (List.mem_append_right _ (List.mem_append_right _ (List.mem_append_right _ (List.mem_append_right _ (List.mem_append_left _ (csr_26_))))))))
theorem csr_27_ : Cond.stringRef (am_sow 27) (am_six 27) (am_stx 27) ∈ tables_1_7 := List.mem_of_getElem? (i := 70) (by decide +kernel)
theorem csr_27 : Cond.stringRef (am_sow 27) (am_six 27) (am_stx 27) ∈ lw_tbl := List.mem_append_right _ (show _ ∈ tables_1 from List.mem_append_right _ (List.mem_append_right _ (List.mem_append_right _ (List.mem_append_right _ (List.mem_append_right _ (List.mem_append_right _ (List.mem_append_left _ (csr_27_))))))))
theorem csr_28_ : Cond.stringRef (am_sow 28) (am_six 28) (am_stx 28) ∈ tables_1_7 := List.mem_of_getElem? (i := 71) (by decide +kernel)
theorem csr_28 : Cond.stringRef (am_sow 28) (am_six 28) (am_stx 28) ∈ lw_tbl := List.mem_append_right _ (show _ ∈ tables_1 from List.mem_append_right _ (List.mem_append_right _ (List.mem_append_right _ (List.mem_append_right _ (List.mem_append_right _ (List.mem_append_right _ (List.mem_append_left _ (csr_28_))))))))
theorem csr_29_ : Cond.stringRef (am_sow 29) (am_six 29) (am_stx 29) ∈ tables_1_7 := List.mem_of_getElem? (i := 80) (by decide +kernel)
theorem csr_29 : Cond.stringRef (am_sow 29) (am_six 29) (am_stx 29) ∈ lw_tbl := List.mem_append_right _ (show _ ∈ tables_1 from List.mem_append_right _ (List.mem_append_right _ (List.mem_append_right _ (List.mem_append_right _ (List.mem_append_right _ (List.mem_append_right _ (List.mem_append_left _ (csr_29_))))))))
theorem csr_30_ : Cond.stringRef (am_sow 30) (am_six 30) (am_stx 30) ∈ tables_1_7 := List.mem_of_getElem? (i := 81) (by decide +kernel)
theorem csr_30 : Cond.stringRef (am_sow 30) (am_six 30) (am_stx 30) ∈ lw_tbl := List.mem_append_right _ (show _ ∈ tables_1 from List.mem_append_right _ (List.mem_append_right _ (List.mem_append_right _ (List.mem_append_right _ (List.mem_append_right _ (List.mem_append_right _ (List.mem_append_left _ (csr_30_))))))))
theorem csr_31_ : Cond.stringRef (am_sow 31) (am_six 31) (am_stx 31) ∈ tables_1_7 := List.mem_of_getElem? (i := 91) (by decide +kernel)
theorem csr_31 : Cond.stringRef (am_sow 31) (am_six 31) (am_stx 31) ∈ lw_tbl := List.mem_append_right _ (show _ ∈ tables_1 from List.mem_append_right _ (List.mem_append_right _ (List.mem_append_right _ (List.mem_append_right _ (List.mem_append_right _ (List.mem_append_right _ (List.mem_append_left _ (csr_31_))))))))
theorem csr_32_ : Cond.stringRef (am_sow 32) (am_six 32) (am_stx 32) ∈ tables_1_7 := List.mem_of_getElem? (i := 92) (by decide +kernel)
theorem csr_32 : Cond.stringRef (am_sow 32) (am_six 32) (am_stx 32) ∈ lw_tbl := List.mem_append_right _ (show _ ∈ tables_1 from List.mem_append_right _ (List.mem_append_right _ (List.mem_append_right _ (List.mem_append_right _ (List.mem_append_right _ (List.mem_append_right _ (List.mem_append_left _ (csr_32_))))))))
theorem csr_33_ : Cond.stringRef (am_sow 33) (am_six 33) (am_stx 33) ∈ tables_1_7 := List.mem_of_getElem? (i := 100) (by decide +kernel)
theorem csr_33 : Cond.stringRef (am_sow 33) (am_six 33) (am_stx 33) ∈ lw_tbl := List.mem_append_right _ (show _ ∈ tables_1 from List.mem_append_right _ (List.mem_append_right _ (List.mem_append_right _ (List.mem_append_right _ (List.mem_append_right _ (List.mem_append_right _ (List.mem_append_left _ (csr_33_))))))))
theorem csr_34_ : Cond.stringRef (am_sow 34) (am_six 34) (am_stx 34) ∈ tables_1_7 := List.mem_of_getElem? (i := 117) (by decide +kernel)
theorem csr_34 : Cond.stringRef (am_sow 34) (am_six 34) (am_stx 34) ∈ lw_tbl := List.mem_append_right _ (show _ ∈ tables_1 from List.mem_append_right _ (List.mem_append_right _ (List.mem_append_right _ (List.mem_append_right _ (List.mem_append_right _ (List.mem_append_right _ (List.mem_append_left _ (csr_34_))))))))
theorem csr_35_ : Cond.stringRef (am_sow 35) (am_six 35) (am_stx 35) ∈ tables_1_7 := List.mem_of_getElem? (i := 122) (by decide +kernel)
theorem csr_35 : Cond.stringRef (am_sow 35) (am_six 35) (am_stx 35) ∈ lw_tbl := List.mem_append_right _ (show _ ∈ tables_1 from List.mem_append_right _ (List.mem_append_right _ (List.mem_append_right _ (List.mem_append_right _ (List.mem_append_right _ (List.mem_append_right _ (List.mem_append_left _ (csr_35_))))))))
theorem csr_36_ : Cond.stringRef (am_sow 36) (am_six 36) (am_stx 36) ∈ tables_1_7 := List.mem_of_getElem? (i := 127) (by decide +kernel)
theorem csr_36 : Cond.stringRef (am_sow 36) (am_six 36) (am_stx 36) ∈ lw_tbl := List.mem_append_right _ (show _ ∈ tables_1 from List.mem_append_right _ (List.mem_append_right _ (List.mem_append_right _ (List.mem_append_right _ (List.mem_append_right _ (List.mem_append_right _ (List.mem_append_left _ (csr_36_))))))))
theorem csr_37_ : Cond.stringRef (am_sow 37) (am_six 37) (am_stx 37) ∈ tables_1_7 := List.mem_of_getElem? (i := 128) (by decide +kernel)
theorem csr_37 : Cond.stringRef (am_sow 37) (am_six 37) (am_stx 37) ∈ lw_tbl := List.mem_append_right _ (show _ ∈ tables_1 from List.mem_append_right _ (List.mem_append_right _ (List.mem_append_right _ (List.mem_append_right _ (List.mem_append_right _ (List.mem_append_right _ (List.mem_append_left _ (csr_37_))))))))
theorem csr_38_ : Cond.stringRef (am_sow 38) (am_six 38) (am_stx 38) ∈ tables_1_7 := List.mem_of_getElem? (i := 129) (by decide +kernel)
theorem csr_38 : Cond.stringRef (am_sow 38) (am_six 38) (am_stx 38) ∈ lw_tbl := List.mem_append_right _ (show _ ∈ tables_1 from List.mem_append_right _ (List.mem_append_right _ (List.mem_append_right _ (List.mem_append_right _ (List.mem_append_right _ (List.mem_append_right _ (List.mem_append_left _ (csr_38_))))))))
theorem csr_39_ : Cond.stringRef (am_sow 39) (am_six 39) (am_stx 39) ∈ tables_1_7 := List.mem_of_getElem? (i := 146) (by decide +kernel)
theorem csr_39 : Cond.stringRef (am_sow 39) (am_six 39) (am_stx 39) ∈ lw_tbl := List.mem_append_right _ (show _ ∈ tables_1 from List.mem_append_right _ (List.mem_append_right _ (List.mem_append_right _ (List.mem_append_right _ (List.mem_append_right _ (List.mem_append_right _ (List.mem_append_left _ (csr_39_))))))))
theorem csr_40_ : Cond.stringRef (am_sow 40) (am_six 40) (am_stx 40) ∈ tables_1_7 := List.mem_of_getElem? (i := 155) (by decide +kernel)
theorem csr_40 : Cond.stringRef (am_sow 40) (am_six 40) (am_stx 40) ∈ lw_tbl := List.mem_append_right _ (show _ ∈ tables_1 from List.mem_append_right _ (List.mem_append_right _ (List.mem_append_right _ (List.mem_append_right _ (List.mem_append_right _ (List.mem_append_right _ (List.mem_append_left _ (csr_40_))))))))
theorem csr_41_ : Cond.stringRef (am_sow 41) (am_six 41) (am_stx 41) ∈ tables_1_7 := List.mem_of_getElem? (i := 156) (by decide +kernel)
theorem csr_41 : Cond.stringRef (am_sow 41) (am_six 41) (am_stx 41) ∈ lw_tbl := List.mem_append_right _ (show _ ∈ tables_1 from List.mem_append_right _ (List.mem_append_right _ (List.mem_append_right _ (List.mem_append_right _ (List.mem_append_right _ (List.mem_append_right _ (List.mem_append_left _ (csr_41_))))))))
theorem csr_42_ : Cond.stringRef (am_sow 42) (am_six 42) (am_stx 42) ∈ tables_1_7 := List.mem_of_getElem? (i := 157) (by decide +kernel)
theorem csr_42 : Cond.stringRef (am_sow 42) (am_six 42) (am_stx 42) ∈ lw_tbl := List.mem_append_right _ (show _ ∈ tables_1 from List.mem_append_right _ (List.mem_append_right _ (List.mem_append_right _ (List.mem_append_right _ (List.mem_append_right _ (List.mem_append_right _ (List.mem_append_left _ (csr_42_))))))))
theorem csr_43_ : Cond.stringRef (am_sow 43) (am_six 43) (am_stx 43) ∈ tables_1_7 := List.mem_of_getElem? (i := 170) (by decide +kernel)
theorem csr_43 : Cond.stringRef (am_sow 43) (am_six 43) (am_stx 43) ∈ lw_tbl := List.mem_append_right _ (show _ ∈ tables_1 from List.mem_append_right _ (List.mem_append_right _ (List.mem_append_right _ (List.mem_append_right _ (List.mem_append_right _ (List.mem_append_right _ (List.mem_append_left _ (csr_43_))))))))
theorem csr_44_ : Cond.stringRef (am_sow 44) (am_six 44) (am_stx 44) ∈ tables_1_7 := List.mem_of_getElem? (i := 171) (by decide +kernel)
theorem csr_44 : Cond.stringRef (am_sow 44) (am_six 44) (am_stx 44) ∈ lw_tbl := List.mem_append_right _ (show _ ∈ tables_1 from List.mem_append_right _ (List.mem_append_right _ (List.mem_append_right _ (List.mem_append_right _ (List.mem_append_right _ (List.mem_append_right _ (List.mem_append_left _ (csr_44_))))))))
theorem csr_45_ : Cond.stringRef (am_sow 45) (am_six 45) (am_stx 45) ∈ tables_1_7 := List.mem_of_getElem? (i := 172) (by decide +kernel)
theorem csr_45 : Cond.stringRef (am_sow 45) (am_six 45) (am_stx 45) ∈ lw_tbl := List.mem_append_right _ (show _ ∈ tables_1 from List.mem_append_right _ (List.mem_append_right _ (List.mem_append_right _ (List.mem_append_right _ (List.mem_append_right _ (List.mem_append_right _ (List.mem_append_left _ (csr_45_))))))))
theorem csr (i : Nat) (hi : i < am_sN) : Cond.stringRef (am_sow i) (am_six i) (am_stx i) ∈ lw_tbl := by
  have hi : i < 46 := hi
  rcases (show i = 0 ∨ i = 1 ∨ i = 2 ∨ i = 3 ∨ i = 4 ∨ i = 5 ∨ i = 6 ∨ i = 7 ∨ i = 8 ∨ i = 9 ∨ i = 10 ∨ i = 11 ∨ i = 12 ∨ i = 13 ∨ i = 14 ∨ i = 15 ∨ i = 16 ∨ i = 17 ∨ i = 18 ∨ i = 19 ∨ i = 20 ∨ i = 21 ∨ i = 22 ∨ i = 23 ∨ i = 24 ∨ i = 25 ∨ i = 26 ∨ i = 27 ∨ i = 28 ∨ i = 29 ∨ i = 30 ∨ i = 31 ∨ i = 32 ∨ i = 33 ∨ i = 34 ∨ i = 35 ∨ i = 36 ∨ i = 37 ∨ i = 38 ∨ i = 39 ∨ i = 40 ∨ i = 41 ∨ i = 42 ∨ i = 43 ∨ i = 44 ∨ i = 45 by omega) with rfl | rfl | rfl | rfl | rfl | rfl | rfl | rfl | rfl | rfl | rfl | rfl | rfl | rfl | rfl | rfl | rfl | rfl | rfl | rfl | rfl | rfl | rfl | rfl | rfl | rfl | rfl | rfl | rfl | rfl | rfl | rfl | rfl | rfl | rfl | rfl | rfl | rfl | rfl | rfl | rfl | rfl | rfl | rfl | rfl | rfl
  · exact csr_0
  · exact csr_1
  · exact csr_2
  · exact csr_3
  · exact csr_4
  · exact csr_5
  · exact csr_6
  · exact csr_7
  · exact csr_8
  · exact csr_9
  · exact csr_10
  · exact csr_11
  · exact csr_12
  · exact csr_13
  · exact csr_14
  · exact csr_15
  · exact csr_16
  · exact csr_17
  · exact csr_18
  · exact csr_19
  · exact csr_20
  · exact csr_21
  · exact csr_22
  · exact csr_23
  · exact csr_24
  · exact csr_25
  · exact csr_26
  · exact csr_27
  · exact csr_28
  · exact csr_29
  · exact csr_30
  · exact csr_31
  · exact csr_32
  · exact csr_33
  · exact csr_34
  · exact csr_35
  · exact csr_36
  · exact csr_37
  · exact csr_38
  · exact csr_39
  · exact csr_40
  · exact csr_41
  · exact csr_42
  · exact csr_43
  · exact csr_44
  · exact csr_45
theorem cp_p_ : Cond.privateMethod am_ySp ∈ tables_1_3 := List.mem_of_getElem? (i := 38) (by decide +kernel)
theorem cp_p : Cond.privateMethod am_ySp ∈ lw_tbl := List.mem_append_right _ (show _ ∈ tables_1 from List.mem_append_right _ (List.mem_append_right _ (List.mem_append_left _ (cp_p_))))
theorem cp_i_ : Cond.instanceMethod am_ySp ∈ tables_1_3 := List.mem_of_getElem? (i := 39) (by decide +kernel)
theorem cp_i : Cond.instanceMethod am_ySp ∈ lw_tbl := List.mem_append_right _ (show _ ∈ tables_1 from List.mem_append_right _ (List.mem_append_right _ (List.mem_append_left _ (cp_i_))))
theorem cp_s1_ : Cond.selects "ShutFists$ParishText" am_ySo am_ySo ∈ tables_1_3 := List.mem_of_getElem? (i := 115) (by decide +kernel)
theorem cp_s1 : Cond.selects "ShutFists$ParishText" am_ySo am_ySo ∈ lw_tbl := List.mem_append_right _ (show _ ∈ tables_1 from List.mem_append_right _ (List.mem_append_right _ (List.mem_append_left _ (cp_s1_))))
theorem cp_s2_ : Cond.selects "ShutFists$LawText" am_ySo am_ySo ∈ tables_1_3 := List.mem_of_getElem? (i := 114) (by decide +kernel)
theorem cp_s2 : Cond.selects "ShutFists$LawText" am_ySo am_ySo ∈ lw_tbl := List.mem_append_right _ (show _ ∈ tables_1 from List.mem_append_right _ (List.mem_append_right _ (List.mem_append_left _ (cp_s2_))))
/-! WHAT IS KNOWN AT THE LAW'S ENTRY -/
abbrev ct_g : Cond := Jvm.Cond.and given_1 narrow_1
def ct_ts (i : Nat) : Term := .string (am_sow i) (am_six i)
def ct_tf (i : Nat) : Term := .field (ct_ts i) "java/lang/String" "value" "[B"
def ct_tx (i : Nat) : List Cond := [.exactly (ct_ts i) "java/lang/String", .eq (.field (ct_ts i) "java/lang/String" "coder" "B") (.int 0), .arrayOf (ct_tf i) .byte, .eq (.length (ct_tf i)) (.int (Int32.ofNat (am_str i).length))] ++ (List.range (am_str i).length).map (fun j => .eq (.elem (ct_tf i) (.int (Int32.ofNat j))) (.int ((am_str i).getD j 0)))
theorem ct_tx_sub : ((List.range 46).flatMap ct_tx).isSublist (flatC ct_g) = true := by decide +kernel
theorem ct_tx_in {i : Nat} (hi : i < 46) {c : Cond} (hc : c ∈ ct_tx i) : c ∈ flatC ct_g := (List.isSublist_iff_sublist.mp ct_tx_sub).subset (List.mem_flatMap.mpr ⟨i, List.mem_range.mpr hi, hc⟩)
def ct_oth : List Cond := [.eq (.static "java/lang/String" "COMPACT_STRINGS" "Z") (.int 1), .isRef (.static "jdk/internal/util/Preconditions" "SIOOBE_FORMATTER" "Ljava/util/function/BiFunction;"), .isRef (.static "java/lang/Throwable" "UNASSIGNED_STACK" "[Ljava/lang/StackTraceElement;"), .isRef (.static "java/lang/Throwable" "SUPPRESSED_SENTINEL" "Ljava/util/List;")]
theorem ct_oth_sub : ct_oth.isSublist (flatC ct_g) = true := by decide +kernel
theorem ct_nc_in : am_NC.all (fun q => decide (Cond.not (.castable q.1 q.2) ∈ flatC ct_g)) = true := by decide +kernel
section CTE
variable {s : State} {b : Nat} {A : Nat → Prop}
theorem ct_txt (hg : ct_g.before #[Value.ref b] s = true) (hts : ∀ w ∈ lw_tbl, w.before #[Value.ref b] s = true) (hA : ∀ a : Nat, a < s.heap.size → ¬ A a) {i : Nat} (hi : i < am_sN) : ∃ q : Nat × Nat, vk_R (am_sow i) (am_six i) (am_stx i) q.1 s ∧ va_O "java/lang/String" q.1 A s s.heap ∧ va_OF "java/lang/String" "coder" "B" (.int 0) q.1 A s s.heap ∧ va_OF "java/lang/String" "value" "[B" (.ref q.2) q.1 A s s.heap ∧ va_T .byte q.2 (am_str i).length (fun j => .int ((am_str i).getD j 0)) A s s.heap := by
  have hL := flat_of_before _ hg
  have hc : ∀ c ∈ ct_tx i, c.before #[Value.ref b] s = true := fun c hc => hL c (ct_tx_in hi hc)
  have h4 : ∀ c ∈ [Cond.exactly (ct_ts i) "java/lang/String", .eq (.field (ct_ts i) "java/lang/String" "coder" "B") (.int 0), .arrayOf (ct_tf i) .byte, .eq (.length (ct_tf i)) (.int (Int32.ofNat (am_str i).length))], c.before #[Value.ref b] s = true := fun c h => hc c (List.mem_append_left _ h)
  have hel : ∀ j, j < (am_str i).length → (Cond.eq (.elem (ct_tf i) (.int (Int32.ofNat j))) (.int ((am_str i).getD j 0))).before #[Value.ref b] s = true := fun j hj => hc _ (List.mem_append_right _ (List.mem_map.mpr ⟨j, List.mem_range.mpr hj, rfl⟩))
  obtain ⟨a, c, cA, kA, q1, q2, q3, q4, q5, q6, -⟩ := Cond.exactly_spec (args := #[Value.ref b]) (first := s) (o := none) (s := s) (idx := []) (t := ct_ts i) (cls := "java/lang/String") (h4 _ (List.mem_cons_self))
  obtain ⟨t, ht, hT⟩ := va_Tof (tm := ct_tf i) (f := fun j => .int ((am_str i).getD j 0)) (A := A) (am_str_len i) (h4 _ (List.mem_of_getElem? (i := 2) rfl)) (va_eqt (h4 _ (List.mem_of_getElem? (i := 3) rfl))) (fun j hj => va_eqt (hel j hj)) hA
  exact ⟨(a, t), vk_R.of (hts _ (csr i hi)) q1, ⟨cA, q3, q5, by rw [q6]; exact q2, hA a (Array.getElem?_eq_some_iff.mp q3).1⟩, vk_OFof q1 (va_eqt (h4 _ (List.mem_of_getElem? (i := 1) rfl))) hA, vk_OFof q1 ht hA, hT⟩
theorem ct_T0 (hts : ∀ w ∈ lw_tbl, w.before #[Value.ref b] s = true) : ∀ w ∈ am_T, w.before #[Value.ref b] s = true := fun w hw => by
  rcases List.mem_append.mp hw with h | h
  · exact hts w (List.mem_filter.mp h).1
  · simp only [am_T2, List.mem_cons, List.not_mem_nil, or_false] at h
    rcases h with h | h
    · rw [h]; exact am_selP (x := am_ySo) (by decide) rfl (hts _ cp_s1) (hts _ cp_p) (hts _ cp_i)
    · rw [h]; exact am_selP (x := am_ySo) (by decide) rfl (hts _ cp_s2) (hts _ cp_p) (hts _ cp_i)
theorem ct_kn (hts : ∀ w ∈ am_T, w.before #[Value.ref b] s = true) (k : Nat) : ∃ q : ClassId × (Nat → Nat), ∀ r : vw_C, vwCl[k]? = some r → u_Kn s r.1 r.2.1 r.2.2 q.1 q.2 := by
  have key : ∀ {C : String} {T : u_T} {N n : Nat}, vwCl[k]? = some (C, T, N) → Cond.instantiable C n ∈ am_T → ∃ q : ClassId × (Nat → Nat), ∀ r : vw_C, vwCl[k]? = some r → u_Kn s r.1 r.2.1 r.2.2 q.1 q.2 := fun {C T N n} h hi => by
    obtain ⟨cC, iS, hk⟩ := u_known hts (am_cls_ok k _ h).1 (hts _ hi)
    exact ⟨(cC, iS), fun r hr => by cases h.symm.trans hr; exact hk⟩
  rcases (show k = 0 ∨ k = 1 ∨ k = 2 ∨ k = 3 ∨ k = 4 ∨ k = 5 ∨ k = 6 ∨ k = 7 ∨ k = 8 ∨ k = 9 ∨ k = 10 ∨ 11 ≤ k by omega) with rfl | rfl | rfl | rfl | rfl | rfl | rfl | rfl | rfl | rfl | rfl | h
  · exact key rfl cinst_0
  · exact key rfl cinst_1
  · exact key rfl cinst_2
  · exact key rfl cinst_3
  · exact key rfl cinst_4
  · exact key rfl cinst_5
  · exact key rfl cinst_6
  · exact key rfl cinst_7
  · exact key rfl cinst_8
  · exact key rfl cinst_9
  · exact key rfl cinst_10
  · exact ⟨(0, fun _ => 0), fun r hr => by
      rw [List.getElem?_eq_none (by show 11 ≤ k; exact h)] at hr
      cases hr⟩
theorem ct_arrP {ty : FieldType} {args : Array Value} (h : (Cond.arrayClass ty).before args s = true) : ∃ cA, ArrOfT s cA ty ∧ s.vm.findClass ("[" ++ ty.toString) = some cA := by
  obtain ⟨c, k, comp, h1, h2, h3⟩ := Cond.arrayClass_spec h
  exact ⟨c, fun n z => ⟨fun k h => (by cases h), k, h2, comp, h3⟩, h1⟩
/-- the picture at the entry -/
theorem ct_K0 (hts : ∀ w ∈ lw_tbl, w.before #[Value.ref b] s = true) (hg : ct_g.before #[Value.ref b] s = true) : ∃ G : am_G, (∀ o, o < 390 → G.1 o = G.2.2.2.2 + o) ∧ G.1 391 = b ∧ G.2.2.2.2 = s.heap.size ∧ am_K G s s.heap ∧ ct_K G s := by
  have hT := ct_T0 hts
  have hA : ∀ a : Nat, a < s.heap.size → ¬ s.heap.size ≤ a := fun a h q => by omega
  have hL := flat_of_before _ hg
  have hoth : ∀ c ∈ ct_oth, c.before #[Value.ref b] s = true := fun c hc => hL c ((List.isSublist_iff_sublist.mp ct_oth_sub).subset hc)
  have h0 : ∀ i : Nat, ∃ q : Nat × Nat, i < am_sN → vk_R (am_sow i) (am_six i) (am_stx i) q.1 s ∧ va_O "java/lang/String" q.1 (fun q => s.heap.size ≤ q) s s.heap ∧ va_OF "java/lang/String" "coder" "B" (.int 0) q.1 (fun q => s.heap.size ≤ q) s s.heap ∧ va_OF "java/lang/String" "value" "[B" (.ref q.2) q.1 (fun q => s.heap.size ≤ q) s s.heap ∧ va_T .byte q.2 (am_str i).length (fun j => .int ((am_str i).getD j 0)) (fun q => s.heap.size ≤ q) s s.heap := fun i => by
    by_cases hi : i < am_sN
    · obtain ⟨q, hq⟩ := ct_txt hg hts hA hi
      exact ⟨q, fun _ => hq⟩
    · exact ⟨(0, 0), fun h => absurd h hi⟩
  obtain ⟨ad, had⟩ := Classical.axiomOfChoice h0
  obtain ⟨dk, hdk⟩ := Classical.axiomOfChoice (ct_kn hT)
  obtain ⟨a0, x0, y0⟩ := ct_arrP (hT _ ca_int)
  obtain ⟨a1, x1, y1⟩ := ct_arrP (hT _ ca_byte)
  obtain ⟨a2, x2, y2⟩ := ct_arrP (hT _ ca_boolean)
  obtain ⟨a3, x3, y3⟩ := ct_arrP (hT _ ca_long)
  obtain ⟨c4, a4, k4, u4, v4, w4, y4⟩ := Cond.arrayOver_specA (hts _ cl_aoa)
  obtain ⟨c5, a5, k5, u5, t5, v5, w5, y5⟩ := Cond.arrayOver_spec (hts _ cl_ao)
  let G : am_G := (fun o => if o < 390 then s.heap.size + o else if o = 391 then b else (ad (o - 1000)).1, fun i => match i with | 0 => a0 | 1 => a1 | 2 => a2 | 3 => a3 | 4 => a4 | _ => a5, (fun c => (dk c).1, fun c => (dk c).2), fun i => (ad i).2, s.heap.size)
  have hG : ∀ o, o < 390 → G.1 o = G.2.2.2.2 + o := fun o ho => if_pos ho
  have hGt : ∀ i, G.1 (1000 + i) = (ad i).1 := fun i => by
    show (if 1000 + i < 390 then s.heap.size + (1000 + i) else if 1000 + i = 391 then b else (ad (1000 + i - 1000)).1) = _
    rw [if_neg (by omega), if_neg (by omega), Nat.add_sub_cancel_left]
  have hK : va_K G.2.2.1 vwCl (am_tys G) s := by
    refine ⟨fun c q hq => hdk c q hq, fun k q hk => ?_⟩
    rcases (show k = 0 ∨ k = 1 ∨ k = 2 ∨ k = 3 ∨ k = 4 ∨ k = 5 ∨ 6 ≤ k by omega) with rfl | rfl | rfl | rfl | rfl | rfl | h
    · cases hk; exact ⟨x0, y0⟩
    · cases hk; exact ⟨x1, y1⟩
    · cases hk; exact ⟨x2, y2⟩
    · cases hk; exact ⟨x3, y3⟩
    · cases hk; exact ⟨fun n z => ⟨fun k h => (by cases h), k4, v4, c4, w4⟩, y4⟩
    · cases hk; exact ⟨fun n z => ⟨fun k h => (by cases h), k5, v5, c5, w5⟩, k5, c5, v5, w5, u5, y5⟩
    · rw [List.getElem?_eq_none (by show 6 ≤ k; exact h)] at hk
      cases hk
  have hN : ∀ w ∈ am_NW, va_Nw w s := fun w hw => by
    have h1 := hts w (List.mem_filter.mp hw).1
    have h2 := am_NW_is hw
    cases w <;> first | exact Bool.noConfusion h2 | exact va_Nw.of rfl h1
  refine ⟨G, hG, rfl, rfl, ⟨hK, hN, fun i hi => ?_, ?_, ?_, ?_, ?_, ?_⟩, hK, hN, va_AOA.of (hts _ cl_aoa), va_AO.of (hts _ cl_ao), hG⟩
  · obtain ⟨g1, g2, g3, g4, g5⟩ := had i hi
    unfold am_Tx
    rw [hGt i]
    exact ⟨g1, g2, g3, g4, g5⟩
  · exact vx_Zqof (hts _ cl_us) (hts _ cini_T) (hoth _ (List.mem_of_getElem? (i := 2) rfl)) hA
  · exact vx_Zqof (hts _ cl_ss) (hts _ cini_T) (hoth _ (List.mem_of_getElem? (i := 3) rfl)) hA
  · exact va_Zof (hts _ cl_cs) (hts _ cini_S) (va_eqi (hoth _ (List.mem_of_getElem? (i := 0) rfl))) hA
  · exact va_Zqof (hts _ cl_pf) (hts _ cini_P) (hoth _ (List.mem_of_getElem? (i := 1) rfl)) hA
  · intro q hq
    exact va_Nc.of (hL _ (of_decide_eq_true (List.all_eq_true.mp ct_nc_in q hq)))
end CTE
