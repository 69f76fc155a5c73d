/-! log, led, nothing, count -/
theorem rR_ofLog {a w : Nat} (ha : a < 60) (hw : w < 5) (d : Nat) (h : am_H) : am_cl (d + 1) qR_ofLog [.ref 373, .int (Int32.ofNat a), .int (Int32.ofNat w)] h = some (.inl (some (h.2 374 (115 + 5 * a + w))), h) := by simp -implicitDefEqProofs (disch := (first | omega | assumption | exact am_isS_3 | exact am_isS_25 | exact am_isX_356 | exact am_isX_359)) only [uR_ofLog, ggR_ofLog_0, am_kI_x, am_kV_x, am_kI_i, am_nI_i, am_kV_i, am_nV_i, ↓reduceIte, eq_self, if_true, if_false, c_in, c_tn, pn_add, pn_mul, pn_subc, pn_addm, c_le_t, c_le_f, c_lt_t, c_lt_f, c_eq_f, c_eqm, bi_z, bi_1, bi_b, bi_T, bi_F, ite_not, up_eq, up_ne, or_self, or_true, true_or, or_false, false_or, and_true, true_and, and_self, not_true_eq_false, not_false_eq_true, Bool.false_eq_true]
theorem T_log (x y : Int32) : Two qF_log [.ref 0, .int x, .int y] qR_log [.ref 373, .int x, .int y] (am_ctt 33) := by
  intro d hC hR J
  have J0 := J.thr (Int32.ofNat 0)
  obtain ⟨⟨N, G, R, okt, okc, okk, RL⟩, -⟩ := J
  have hN := R.1
  have hG := R.2.1
  have r5 := R.2.2.2.2.1
  have r6 := R.2.2.2.2.2.1
  have r13 := R.2.2.2.2.2.2.2.2.2.2.2.2
  rcases rng_cases 4 (by omega) y with ⟨w, hw, rfl⟩ | ⟨b1, b2⟩
  · rcases ch_cases (N := G) (by omega) x with ⟨a, ha, rfl⟩ | ⟨b1, b2⟩
    · refine ⟨hC, am_up hR 373 0 (Int32.ofNat 0), J0, rfl, Or.inl ⟨hR.2 374 (115 + 5 * a + w), rfl, up_eq rfl rfl, ?_, ?_⟩⟩
      · have e := r13 w (G - 1 - a) (by omega) (by omega)
        rw [show G - 1 - (G - 1 - a) = a by omega] at e
        simp -implicitDefEqProofs (disch := (first | omega | assumption | exact am_isS_3 | exact am_isS_25 | exact am_isX_356 | exact am_isX_359)) only [uF_log, ggF_log_0, ggF_log_1, ggF_log_2, ggF_log_3, ggF_log_4, ggF_log_5, ggF_log_6, r6, iSkl am_isS_3, iSnl am_isS_3, e, am_kI_x, am_kV_x, am_kI_i, am_nI_i, am_kV_i, am_nV_i, ↓reduceIte, eq_self, if_true, if_false, c_in, c_tn, pn_add, pn_mul, pn_subc, pn_addm, c_le_t, c_le_f, c_lt_t, c_lt_f, c_eq_f, c_eqm, bi_z, bi_1, bi_b, bi_T, bi_F, ite_not, up_eq, up_ne, or_self, or_true, true_or, or_false, false_or, and_true, true_and, and_self, not_true_eq_false, not_false_eq_true, Bool.false_eq_true]
      · simp -implicitDefEqProofs (disch := (first | omega | assumption | exact am_isS_3 | exact am_isS_25 | exact am_isX_356 | exact am_isX_359)) only [uR_log, ggR_log_0, ggR_log_1, ggR_log_2, ggR_log_3, ggR_log_4, ggR_log_5, ggR_log_6, ggR_log_7, ggR_log_8, ccR_log_0_1, ccR_log_3_1, ccR_log_5_1, ccR_log_6_1, rR_in, rR_throwsIf_f, rR_ofLog, k_373, up_o, r5, am_kI_x, am_kV_x, am_kI_i, am_nI_i, am_kV_i, am_nV_i, ↓reduceIte, eq_self, if_true, if_false, c_in, c_tn, pn_add, pn_mul, pn_subc, pn_addm, c_le_t, c_le_f, c_lt_t, c_lt_f, c_eq_f, c_eqm, bi_z, bi_1, bi_b, bi_T, bi_F, ite_not, up_eq, up_ne, or_self, or_true, true_or, or_false, false_or, and_true, true_and, and_self, not_true_eq_false, not_false_eq_true, Bool.false_eq_true]
    · refine ⟨hC, am_up hR 373 0 (Int32.ofNat 0), J0, rfl, Or.inl ⟨-1, rfl, up_eq rfl rfl, ?_, ?_⟩⟩
      · rcases b2 with b2 | ⟨b2, b3⟩
        · simp -implicitDefEqProofs (disch := (first | omega | assumption | exact am_isS_3 | exact am_isS_25 | exact am_isX_356 | exact am_isX_359)) only [uF_log, ggF_log_0, ggF_log_1, ggF_log_2, ggF_log_3, ggF_log_4, ggF_log_5, ggF_log_6, r6, b2, am_kI_x, am_kV_x, am_kI_i, am_nI_i, am_kV_i, am_nV_i, ↓reduceIte, eq_self, if_true, if_false, c_in, c_tn, pn_add, pn_mul, pn_subc, pn_addm, c_le_t, c_le_f, c_lt_t, c_lt_f, c_eq_f, c_eqm, bi_z, bi_1, bi_b, bi_T, bi_F, ite_not, up_eq, up_ne, or_self, or_true, true_or, or_false, false_or, and_true, true_and, and_self, not_true_eq_false, not_false_eq_true, Bool.false_eq_true]
        · simp -implicitDefEqProofs (disch := (first | omega | assumption | exact am_isS_3 | exact am_isS_25 | exact am_isX_356 | exact am_isX_359)) only [uF_log, ggF_log_0, ggF_log_1, ggF_log_2, ggF_log_3, ggF_log_4, ggF_log_5, ggF_log_6, r6, b2, b3, am_kI_x, am_kV_x, am_kI_i, am_nI_i, am_kV_i, am_nV_i, ↓reduceIte, eq_self, if_true, if_false, c_in, c_tn, pn_add, pn_mul, pn_subc, pn_addm, c_le_t, c_le_f, c_lt_t, c_lt_f, c_eq_f, c_eqm, bi_z, bi_1, bi_b, bi_T, bi_F, ite_not, up_eq, up_ne, or_self, or_true, true_or, or_false, false_or, and_true, true_and, and_self, not_true_eq_false, not_false_eq_true, Bool.false_eq_true]
      · simp -implicitDefEqProofs (disch := (first | omega | assumption | exact am_isS_3 | exact am_isS_25 | exact am_isX_356 | exact am_isX_359)) only [uR_log, ggR_log_0, ggR_log_1, ggR_log_2, ggR_log_3, ggR_log_4, ggR_log_5, ggR_log_6, ggR_log_7, ggR_log_8, ccR_log_0_1, ccR_log_3_1, ccR_log_5_1, ccR_log_6_1, rR_in, rR_throwsIf_f, rR_ofLog, k_373, up_o, r5, b1, am_kI_x, am_kV_x, am_kI_i, am_nI_i, am_kV_i, am_nV_i, ↓reduceIte, eq_self, if_true, if_false, c_in, c_tn, pn_add, pn_mul, pn_subc, pn_addm, c_le_t, c_le_f, c_lt_t, c_lt_f, c_eq_f, c_eqm, bi_z, bi_1, bi_b, bi_T, bi_F, ite_not, up_eq, up_ne, or_self, or_true, true_or, or_false, false_or, and_true, true_and, and_self, not_true_eq_false, not_false_eq_true, Bool.false_eq_true]
  · refine ⟨am_th hC, am_up (am_up hR 373 0 (Int32.ofNat 0)) 373 0 (Int32.ofNat 1), (J0.thr (Int32.ofNat 1)).th, rfl, Or.inr ⟨4, 1, (Int32.ofNat 0), rfl, by decide, up_eq rfl rfl, ?_, ?_⟩⟩
    · rcases b2 with b2 | ⟨b2, b3, b4⟩
      · simp -implicitDefEqProofs (disch := (first | omega | assumption | exact am_isS_3 | exact am_isS_25 | exact am_isX_356 | exact am_isX_359)) only [uF_log, ggF_log_0, ggF_log_1, ggF_log_2, ggF_log_3, ggF_log_4, ggF_log_5, ggF_log_6, b2, am_kI_x, am_kV_x, am_kI_i, am_nI_i, am_kV_i, am_nV_i, ↓reduceIte, eq_self, if_true, if_false, c_in, c_tn, pn_add, pn_mul, pn_subc, pn_addm, c_le_t, c_le_f, c_lt_t, c_lt_f, c_eq_f, c_eqm, bi_z, bi_1, bi_b, bi_T, bi_F, ite_not, up_eq, up_ne, or_self, or_true, true_or, or_false, false_or, and_true, true_and, and_self, not_true_eq_false, not_false_eq_true, Bool.false_eq_true]
      · simp -implicitDefEqProofs (disch := (first | omega | assumption | exact am_isS_3 | exact am_isS_25 | exact am_isX_356 | exact am_isX_359)) only [uF_log, ggF_log_0, ggF_log_1, ggF_log_2, ggF_log_3, ggF_log_4, ggF_log_5, ggF_log_6, b2, b3, am_kI_x, am_kV_x, am_kI_i, am_nI_i, am_kV_i, am_nV_i, ↓reduceIte, eq_self, if_true, if_false, c_in, c_tn, pn_add, pn_mul, pn_subc, pn_addm, c_le_t, c_le_f, c_lt_t, c_lt_f, c_eq_f, c_eqm, bi_z, bi_1, bi_b, bi_T, bi_F, ite_not, up_eq, up_ne, or_self, or_true, true_or, or_false, false_or, and_true, true_and, and_self, not_true_eq_false, not_false_eq_true, Bool.false_eq_true]
    · simp -implicitDefEqProofs (disch := (first | omega | assumption | exact am_isS_3 | exact am_isS_25 | exact am_isX_356 | exact am_isX_359)) only [uR_log, ggR_log_0, ggR_log_1, ggR_log_2, ggR_log_3, ggR_log_4, ggR_log_5, ggR_log_6, ggR_log_7, ggR_log_8, ccR_log_0_1, ccR_log_3_1, ccR_log_5_1, ccR_log_6_1, rR_in, rR_throwsIf_t, b1, k_373, am_kI_x, am_kV_x, am_kI_i, am_nI_i, am_kV_i, am_nV_i, ↓reduceIte, eq_self, if_true, if_false, c_in, c_tn, pn_add, pn_mul, pn_subc, pn_addm, c_le_t, c_le_f, c_lt_t, c_lt_f, c_eq_f, c_eqm, bi_z, bi_1, bi_b, bi_T, bi_F, ite_not, up_eq, up_ne, or_self, or_true, true_or, or_false, false_or, and_true, true_and, and_self, not_true_eq_false, not_false_eq_true, Bool.false_eq_true]
theorem s_19_0k : am_kd (19 + 1 + 0) = 20 := rfl
theorem s_19_0n : am_ln (19 + 1 + 0) = 8 := rfl
theorem s_19_2k : am_kd (19 + 1 + 2) = 20 := rfl
theorem s_19_2n : am_ln (19 + 1 + 2) = 8 := rfl
theorem z_m1 : ((Int32.ofNat 0) : Int32) + (-1 : Int32) = -1 := by decide
theorem z_s1 : ((Int32.ofNat 0) : Int32) - (Int32.ofNat 1) = -1 := by decide
theorem m1_neg : ((-1 : Int32) < (Int32.ofNat 0)) = True := by decide
theorem led_l {hC hR : am_H} {N G : Nat} (R : RelS hC 3 (hR.2 374) N G) {c : Nat} (y : Int32) (d d' : Nat) : ∀ (n k : Nat), k + n = G → (∃ j, j < G ∧ am_go (am_cl d) qS_latestRowOf 1 [.ref 3, .int (Int32.ofNat c), .int (if k = G then -1 else (Int32.ofNat (G - 1 - k)))] [] hC = some (.inl (some ((Int32.ofNat (G - 1 - j)))), hC) ∧ am_go (am_cl (d' + 2)) qR_led 3 [.ref 373, .int (Int32.ofNat c), .int y, .int (Int32.ofNat k)] [] (am_up hR 373 0 (Int32.ofNat 0)) = some (.inl (some (if y = (Int32.ofNat 0) then hR.2 374 (115 + 5 * j + 0) else hR.2 374 (115 + 5 * j + 2))), am_up hR 373 0 (Int32.ofNat 0))) ∨ (am_go (am_cl d) qS_latestRowOf 1 [.ref 3, .int (Int32.ofNat c), .int (if k = G then -1 else (Int32.ofNat (G - 1 - k)))] [] hC = some (.inl (some (-1)), hC) ∧ am_go (am_cl (d' + 2)) qR_led 3 [.ref 373, .int (Int32.ofNat c), .int y, .int (Int32.ofNat k)] [] (am_up hR 373 0 (Int32.ofNat 0)) = some (.inl (some (-1)), am_up hR 373 0 (Int32.ofNat 0))) := by
  have hN := R.1
  have hG := R.2.1
  have r5 := R.2.2.2.2.1
  have r13 := R.2.2.2.2.2.2.2.2.2.2.2.2
  intro n
  induction n with
  | zero =>
    intro k hk
    have hk : k = G := by omega
    subst hk
    right
    rw [if_pos rfl]
    constructor
    · rw [ggS_latestRowOf_1 _ _ _ _ am_isS_3]
      simp -implicitDefEqProofs (disch := (first | omega | assumption | exact am_isS_3 | exact am_isS_25 | exact am_isX_356 | exact am_isX_359)) only [ggS_latestRowOf_0, ggS_latestRowOf_2, ggS_latestRowOf_3, ggS_latestRowOf_4, ggS_latestRowOf_5, m1_neg, am_kI_x, am_kV_x, am_kI_i, am_nI_i, am_kV_i, am_nV_i, ↓reduceIte, eq_self, if_true, if_false, c_in, c_tn, pn_add, pn_mul, pn_subc, pn_addm, c_le_t, c_le_f, c_lt_t, c_lt_f, c_eq_f, c_eqm, bi_z, bi_1, bi_b, bi_T, bi_F, ite_not, up_eq, up_ne, or_self, or_true, true_or, or_false, false_or, and_true, true_and, and_self, not_true_eq_false, not_false_eq_true, Bool.false_eq_true]
    · rw [ggR_led_3]
      simp -implicitDefEqProofs (disch := (first | omega | assumption | exact am_isS_3 | exact am_isS_25 | exact am_isX_356 | exact am_isX_359)) only [ggR_led_0, ggR_led_1, ggR_led_2, ggR_led_4, ggR_led_5, ggR_led_6, ggR_led_7, ggR_led_8, ggR_led_9, ggR_led_10, ccR_led_0_2, ccR_led_0_1, ccR_led_4_1, ccR_led_8_1, up_o, r5, am_kI_x, am_kV_x, am_kI_i, am_nI_i, am_kV_i, am_nV_i, ↓reduceIte, eq_self, if_true, if_false, c_in, c_tn, pn_add, pn_mul, pn_subc, pn_addm, c_le_t, c_le_f, c_lt_t, c_lt_f, c_eq_f, c_eqm, bi_z, bi_1, bi_b, bi_T, bi_F, ite_not, up_eq, up_ne, or_self, or_true, true_or, or_false, false_or, and_true, true_and, and_self, not_true_eq_false, not_false_eq_true, Bool.false_eq_true]
  | succ n ih =>
    intro k hk
    have e := r13 1 (G - 1 - k) (by omega) (by omega)
    rw [show G - 1 - (G - 1 - k) = k by omega] at e
    rw [if_neg (show ¬ k = G by omega)]
    by_cases hq : hR.2 374 (115 + 5 * k + 1) = (Int32.ofNat c)
    · left
      refine ⟨k, by omega, ?_, ?_⟩
      · rw [ggS_latestRowOf_1 _ _ _ _ am_isS_3]
        simp -implicitDefEqProofs (disch := (first | omega | assumption | exact am_isS_3 | exact am_isS_25 | exact am_isX_356 | exact am_isX_359)) only [ggS_latestRowOf_0, ggS_latestRowOf_2, ggS_latestRowOf_3, ggS_latestRowOf_4, ggS_latestRowOf_5, e, hq, am_kI_x, am_kV_x, am_kI_i, am_nI_i, am_kV_i, am_nV_i, ↓reduceIte, eq_self, if_true, if_false, c_in, c_tn, pn_add, pn_mul, pn_subc, pn_addm, c_le_t, c_le_f, c_lt_t, c_lt_f, c_eq_f, c_eqm, bi_z, bi_1, bi_b, bi_T, bi_F, ite_not, up_eq, up_ne, or_self, or_true, true_or, or_false, false_or, and_true, true_and, and_self, not_true_eq_false, not_false_eq_true, Bool.false_eq_true]
      · rw [ggR_led_3]
        by_cases hy : y = (Int32.ofNat 0)
        · simp -implicitDefEqProofs (disch := (first | omega | assumption | exact am_isS_3 | exact am_isS_25 | exact am_isX_356 | exact am_isX_359)) only [ggR_led_0, ggR_led_1, ggR_led_2, ggR_led_4, ggR_led_5, ggR_led_6, ggR_led_7, ggR_led_8, ggR_led_9, ggR_led_10, ccR_led_0_2, ccR_led_0_1, ccR_led_4_1, ccR_led_8_1, up_o, r5, rR_ofLog, hq, hy, k_373, am_kI_x, am_kV_x, am_kI_i, am_nI_i, am_kV_i, am_nV_i, ↓reduceIte, eq_self, if_true, if_false, c_in, c_tn, pn_add, pn_mul, pn_subc, pn_addm, c_le_t, c_le_f, c_lt_t, c_lt_f, c_eq_f, c_eqm, bi_z, bi_1, bi_b, bi_T, bi_F, ite_not, up_eq, up_ne, or_self, or_true, true_or, or_false, false_or, and_true, true_and, and_self, not_true_eq_false, not_false_eq_true, Bool.false_eq_true]
        · simp -implicitDefEqProofs (disch := (first | omega | assumption | exact am_isS_3 | exact am_isS_25 | exact am_isX_356 | exact am_isX_359)) only [ggR_led_0, ggR_led_1, ggR_led_2, ggR_led_4, ggR_led_5, ggR_led_6, ggR_led_7, ggR_led_8, ggR_led_9, ggR_led_10, ccR_led_0_2, ccR_led_0_1, ccR_led_4_1, ccR_led_8_1, up_o, r5, rR_ofLog, hq, hy, k_373, am_kI_x, am_kV_x, am_kI_i, am_nI_i, am_kV_i, am_nV_i, ↓reduceIte, eq_self, if_true, if_false, c_in, c_tn, pn_add, pn_mul, pn_subc, pn_addm, c_le_t, c_le_f, c_lt_t, c_lt_f, c_eq_f, c_eqm, bi_z, bi_1, bi_b, bi_T, bi_F, ite_not, up_eq, up_ne, or_self, or_true, true_or, or_false, false_or, and_true, true_and, and_self, not_true_eq_false, not_false_eq_true, Bool.false_eq_true]
    · have s1 : am_go (am_cl d) qS_latestRowOf 1 [.ref 3, .int (Int32.ofNat c), .int (Int32.ofNat (G - 1 - k))] [] hC = am_go (am_cl d) qS_latestRowOf 1 [.ref 3, .int (Int32.ofNat c), .int (if k + 1 = G then -1 else (Int32.ofNat (G - 1 - (k + 1))))] [] hC := by
        rw [ggS_latestRowOf_1 _ _ _ _ am_isS_3]
        by_cases h1 : k + 1 = G
        · rw [if_pos h1, show G - 1 - k = 0 by omega]
          rw [show G - 1 - k = 0 by omega] at e
          simp -implicitDefEqProofs (disch := (first | omega | assumption | exact am_isS_3 | exact am_isS_25 | exact am_isX_356 | exact am_isX_359)) only [ggS_latestRowOf_0, ggS_latestRowOf_2, ggS_latestRowOf_3, ggS_latestRowOf_4, ggS_latestRowOf_5, e, hq, z_m1, am_kI_x, am_kV_x, am_kI_i, am_nI_i, am_kV_i, am_nV_i, ↓reduceIte, eq_self, if_true, if_false, c_in, c_tn, pn_add, pn_mul, pn_subc, pn_addm, c_le_t, c_le_f, c_lt_t, c_lt_f, c_eq_f, c_eqm, bi_z, bi_1, bi_b, bi_T, bi_F, ite_not, up_eq, up_ne, or_self, or_true, true_or, or_false, false_or, and_true, true_and, and_self, not_true_eq_false, not_false_eq_true, Bool.false_eq_true]
        · rw [if_neg h1]
          have e2 : G - 1 - k - 1 = G - 1 - (k + 1) := by omega
          simp -implicitDefEqProofs (disch := (first | omega | assumption | exact am_isS_3 | exact am_isS_25 | exact am_isX_356 | exact am_isX_359)) only [ggS_latestRowOf_0, ggS_latestRowOf_2, ggS_latestRowOf_3, ggS_latestRowOf_4, ggS_latestRowOf_5, e, hq, e2, am_kI_x, am_kV_x, am_kI_i, am_nI_i, am_kV_i, am_nV_i, ↓reduceIte, eq_self, if_true, if_false, c_in, c_tn, pn_add, pn_mul, pn_subc, pn_addm, c_le_t, c_le_f, c_lt_t, c_lt_f, c_eq_f, c_eqm, bi_z, bi_1, bi_b, bi_T, bi_F, ite_not, up_eq, up_ne, or_self, or_true, true_or, or_false, false_or, and_true, true_and, and_self, not_true_eq_false, not_false_eq_true, Bool.false_eq_true]
      have s2 : am_go (am_cl (d' + 2)) qR_led 3 [.ref 373, .int (Int32.ofNat c), .int y, .int (Int32.ofNat k)] [] (am_up hR 373 0 (Int32.ofNat 0)) = am_go (am_cl (d' + 2)) qR_led 3 [.ref 373, .int (Int32.ofNat c), .int y, .int (Int32.ofNat (k + 1))] [] (am_up hR 373 0 (Int32.ofNat 0)) := by
        rw [ggR_led_3]
        simp -implicitDefEqProofs (disch := (first | omega | assumption | exact am_isS_3 | exact am_isS_25 | exact am_isX_356 | exact am_isX_359)) only [ggR_led_0, ggR_led_1, ggR_led_2, ggR_led_4, ggR_led_5, ggR_led_6, ggR_led_7, ggR_led_8, ggR_led_9, ggR_led_10, ccR_led_0_2, ccR_led_0_1, ccR_led_4_1, ccR_led_8_1, up_o, r5, rR_ofLog, hq, am_kI_x, am_kV_x, am_kI_i, am_nI_i, am_kV_i, am_nV_i, ↓reduceIte, eq_self, if_true, if_false, c_in, c_tn, pn_add, pn_mul, pn_subc, pn_addm, c_le_t, c_le_f, c_lt_t, c_lt_f, c_eq_f, c_eqm, bi_z, bi_1, bi_b, bi_T, bi_F, ite_not, up_eq, up_ne, or_self, or_true, true_or, or_false, false_or, and_true, true_and, and_self, not_true_eq_false, not_false_eq_true, Bool.false_eq_true]
      rw [s1, s2]
      exact ih (k + 1) (by omega)
theorem T_led (x y : Int32) : Two qF_led [.ref 0, .int x, .int y] qR_led [.ref 373, .int x, .int y] (am_ctt 32) := by
  intro d hC hR J
  have J0 := J.thr (Int32.ofNat 0)
  obtain ⟨⟨N, G, R, okt, okc, okk, RL⟩, -⟩ := J
  have hN := R.1
  have hG := R.2.1
  have r3 := R.2.2.1
  have r4 := R.2.2.2.1
  have r6 := R.2.2.2.2.2.1
  have r13 := R.2.2.2.2.2.2.2.2.2.2.2.2
  rcases ch_cases hN x with ⟨c, hc, rfl⟩ | ⟨b1, b2⟩
  · have es : ∀ v : Int32, am_go (am_cl (d + 118)) qS_latestRowOf 1 [.ref 3, .int (Int32.ofNat c), .int (if 0 = G then -1 else (Int32.ofNat (G - 1 - 0)))] [] hC = some (.inl (some (v)), hC) → am_cl (d + 119) qS_latestRowOf [.ref 3, .int (Int32.ofNat c)] hC = some (.inl (some (v)), hC) := fun v e => by
      rw [← e, uS_latestRowOf, ggS_latestRowOf_0 _ _ _ am_isS_3, r6]
      by_cases h0 : 0 = G
      · rw [if_pos h0, ← h0, z_s1]
      · rw [if_neg h0, pn_sub (by omega)]; rfl
    have er : ∀ v : Int32, am_go (am_cl (d + 119)) qR_led 3 [.ref 373, .int (Int32.ofNat c), .int y, .int (Int32.ofNat 0)] [] (am_up hR 373 0 (Int32.ofNat 0)) = some (.inl (some (v)), am_up hR 373 0 (Int32.ofNat 0)) → am_cl (d + 120) qR_led [.ref 373, .int (Int32.ofNat c), .int y] hR = some (.inl (some (v)), am_up hR 373 0 (Int32.ofNat 0)) := fun v e => by
      rw [← e]
      simp -implicitDefEqProofs (disch := (first | omega | assumption | exact am_isS_3 | exact am_isS_25 | exact am_isX_356 | exact am_isX_359)) only [uR_led, ggR_led_0, ggR_led_1, ggR_led_2, ggR_led_4, ggR_led_5, ggR_led_6, ggR_led_7, ggR_led_8, ggR_led_9, ggR_led_10, ccR_led_0_2, ccR_led_0_1, ccR_led_4_1, ccR_led_8_1, rR_noChild, rR_throwsIf_f, up_o, r3, am_kI_x, am_kV_x, am_kI_i, am_nI_i, am_kV_i, am_nV_i, ↓reduceIte, eq_self, if_true, if_false, c_in, c_tn, pn_add, pn_mul, pn_subc, pn_addm, c_le_t, c_le_f, c_lt_t, c_lt_f, c_eq_f, c_eqm, bi_z, bi_1, bi_b, bi_T, bi_F, ite_not, up_eq, up_ne, or_self, or_true, true_or, or_false, false_or, and_true, true_and, and_self, not_true_eq_false, not_false_eq_true, Bool.false_eq_true]
    rcases led_l R (c := c) y (d + 118) (d + 117) G 0 (by omega) with ⟨j, hj, e1, e2⟩ | ⟨e1, e2⟩
    · refine ⟨hC, am_up hR 373 0 (Int32.ofNat 0), J0, rfl, Or.inl ⟨_, rfl, up_eq rfl rfl, ?_, er _ e2⟩⟩
      have e3 := es _ e1
      by_cases hy : y = (Int32.ofNat 0)
      · have e := r13 0 (G - 1 - j) (by omega) (by omega)
        rw [show G - 1 - (G - 1 - j) = j by omega] at e
        rw [if_pos hy]
        have e : hC.2 (19 + 1 + 0) (G - 1 - j) = hR.2 374 (115 + 5 * j + 0) := e
        simp -implicitDefEqProofs (disch := (first | omega | assumption | exact am_isS_3 | exact am_isS_25 | exact am_isX_356 | exact am_isX_359)) only [uF_led, ggF_led_0, ggF_led_1, ggF_led_2, ggF_led_3, ggF_led_4, ggF_led_5, ggF_led_6, ccF_led_0_2, ccF_led_0_1, xF_needChild hN r4 hc, e3, hy, k_19, n_19, s_19_0k, s_19_0n, e, am_kI_x, am_kV_x, am_kI_i, am_nI_i, am_kV_i, am_nV_i, ↓reduceIte, eq_self, if_true, if_false, c_in, c_tn, pn_add, pn_mul, pn_subc, pn_addm, c_le_t, c_le_f, c_lt_t, c_lt_f, c_eq_f, c_eqm, bi_z, bi_1, bi_b, bi_T, bi_F, ite_not, up_eq, up_ne, or_self, or_true, true_or, or_false, false_or, and_true, true_and, and_self, not_true_eq_false, not_false_eq_true, Bool.false_eq_true]
      · have e := r13 2 (G - 1 - j) (by omega) (by omega)
        rw [show G - 1 - (G - 1 - j) = j by omega] at e
        rw [if_neg hy]
        have e : hC.2 (19 + 1 + 2) (G - 1 - j) = hR.2 374 (115 + 5 * j + 2) := e
        simp -implicitDefEqProofs (disch := (first | omega | assumption | exact am_isS_3 | exact am_isS_25 | exact am_isX_356 | exact am_isX_359)) only [uF_led, ggF_led_0, ggF_led_1, ggF_led_2, ggF_led_3, ggF_led_4, ggF_led_5, ggF_led_6, ccF_led_0_2, ccF_led_0_1, xF_needChild hN r4 hc, e3, hy, k_19, n_19, s_19_2k, s_19_2n, e, am_kI_x, am_kV_x, am_kI_i, am_nI_i, am_kV_i, am_nV_i, ↓reduceIte, eq_self, if_true, if_false, c_in, c_tn, pn_add, pn_mul, pn_subc, pn_addm, c_le_t, c_le_f, c_lt_t, c_lt_f, c_eq_f, c_eqm, bi_z, bi_1, bi_b, bi_T, bi_F, ite_not, up_eq, up_ne, or_self, or_true, true_or, or_false, false_or, and_true, true_and, and_self, not_true_eq_false, not_false_eq_true, Bool.false_eq_true]
    · refine ⟨hC, am_up hR 373 0 (Int32.ofNat 0), J0, rfl, Or.inl ⟨_, rfl, up_eq rfl rfl, ?_, er _ e2⟩⟩
      have e3 := es _ e1
      simp -implicitDefEqProofs (disch := (first | omega | assumption | exact am_isS_3 | exact am_isS_25 | exact am_isX_356 | exact am_isX_359)) only [uF_led, ggF_led_0, ggF_led_1, ggF_led_2, ggF_led_3, ggF_led_4, ggF_led_5, ggF_led_6, ccF_led_0_2, ccF_led_0_1, xF_needChild hN r4 hc, e3, am_kI_x, am_kV_x, am_kI_i, am_nI_i, am_kV_i, am_nV_i, ↓reduceIte, eq_self, if_true, if_false, c_in, c_tn, pn_add, pn_mul, pn_subc, pn_addm, c_le_t, c_le_f, c_lt_t, c_lt_f, c_eq_f, c_eqm, bi_z, bi_1, bi_b, bi_T, bi_F, ite_not, up_eq, up_ne, or_self, or_true, true_or, or_false, false_or, and_true, true_and, and_self, not_true_eq_false, not_false_eq_true, Bool.false_eq_true]
  · refine ⟨am_th hC, am_up (am_up hR 373 0 (Int32.ofNat 0)) 373 0 (Int32.ofNat 1), (J0.thr (Int32.ofNat 1)).th, rfl, Or.inr ⟨3, 1, (Int32.ofNat 0), rfl, by decide, up_eq rfl rfl, ?_, ?_⟩⟩
    · simp -implicitDefEqProofs (disch := (first | omega | assumption | exact am_isS_3 | exact am_isS_25 | exact am_isX_356 | exact am_isX_359)) only [uF_led, ggF_led_0, ggF_led_1, ggF_led_2, ggF_led_3, ggF_led_4, ggF_led_5, ggF_led_6, ccF_led_0_2, ccF_led_0_1, xF_needChild_x r4 b2, am_kI_x, am_kV_x, am_kI_i, am_nI_i, am_kV_i, am_nV_i, ↓reduceIte, eq_self, if_true, if_false, c_in, c_tn, pn_add, pn_mul, pn_subc, pn_addm, c_le_t, c_le_f, c_lt_t, c_lt_f, c_eq_f, c_eqm, bi_z, bi_1, bi_b, bi_T, bi_F, ite_not, up_eq, up_ne, or_self, or_true, true_or, or_false, false_or, and_true, true_and, and_self, not_true_eq_false, not_false_eq_true, Bool.false_eq_true]
    · simp -implicitDefEqProofs (disch := (first | omega | assumption | exact am_isS_3 | exact am_isS_25 | exact am_isX_356 | exact am_isX_359)) only [uR_led, ggR_led_0, ggR_led_1, ggR_led_2, ggR_led_4, ggR_led_5, ggR_led_6, ggR_led_7, ggR_led_8, ggR_led_9, ggR_led_10, ccR_led_0_2, ccR_led_0_1, ccR_led_4_1, ccR_led_8_1, rR_noChild, rR_throwsIf_t, up_o, r3, b1, k_373, am_kI_x, am_kV_x, am_kI_i, am_nI_i, am_kV_i, am_nV_i, ↓reduceIte, eq_self, if_true, if_false, c_in, c_tn, pn_add, pn_mul, pn_subc, pn_addm, c_le_t, c_le_f, c_lt_t, c_lt_f, c_eq_f, c_eqm, bi_z, bi_1, bi_b, bi_T, bi_F, ite_not, up_eq, up_ne, or_self, or_true, true_or, or_false, false_or, and_true, true_and, and_self, not_true_eq_false, not_false_eq_true, Bool.false_eq_true]
theorem sum_rg {f : Nat → Int32} : ∀ {n : Nat}, (∀ t, t < n → rg (f t) 10) → rg (sum f n) (9 * n + 1) := by
  intro n
  induction n with
  | zero => intro _; exact ⟨0, by omega, rfl⟩
  | succ n ih =>
    intro h
    obtain ⟨a, ha, ea⟩ := ih (fun t ht => h t (by omega))
    obtain ⟨b, hb, eb⟩ := h n (by omega)
    unfold sum at ea ⊢
    rw [itr_succ, ea, Nat.zero_add, eb, pn_add]
    exact ⟨a + b, by omega, rfl⟩
theorem wt_rg {W : Nat → Int32} (H : okT W) {t : Nat} (ht : t < 9) : rg (wt W t) 10 := by
  unfold wt
  by_cases h8 : t = 8
  · rw [if_pos h8]; exact H.2.1
  · rw [if_neg h8]; exact (H.2.2.2.2.2.2 t (by omega)).1
theorem wt_rel {h : am_H} {o : Nat} {W : Nat → Int32} {N G : Nat} (R : RelS h o W N G) {t : Nat} (ht : t < 9) : h.2 (o + 2 + 0) t = wt W t := by
  unfold wt
  by_cases h8 : t = 8
  · rw [if_pos h8, h8]; exact R.2.2.2.2.2.2.2.2.2.1
  · rw [if_neg h8]; exact R.2.2.2.2.2.2.2.2.2.2.1 0 t (by omega) ht (by omega)
theorem aw_rel {h : am_H} {o : Nat} (ho : am_isS o) {W : Nat → Int32} {N G : Nat} (R : RelS h o W N G) (d : Nat) : am_cl (d + 1) qS_allWeights [.ref o] h = some (.inl (some (sum (fun t => wt W t) 9)), h) := by
  rw [sS_allWeights ho, sum_congr (fun t ht => wt_rel R ht)]
theorem T_nothing (x : Int32) : Two qF_nothing [.ref 0, .int x] qR_nothing [.ref 373, .int x] (am_ctt 28) := by
  intro d hC hR J
  have J0 := J.thr (Int32.ofNat 0)
  obtain ⟨⟨N, G, R, okt, okc, okk, RL⟩, -⟩ := J
  obtain ⟨w, hw, ew⟩ := sum_rg (n := 9) (fun t ht => wt_rg okt ht)
  have r10 := R.2.2.2.2.2.2.2.2.2.1
  rcases rng_cases 4 (by omega) x with ⟨n, hn, rfl⟩ | ⟨b1, b2⟩
  · obtain ⟨v, e1, e2⟩ := lpp (Φ := am_cl (d + 119)) (Ψ := am_cl (d + 119)) (q := qF_nothing) (b := 4) (q' := qR_nothing) (b' := 6) (N := n) (h := hC) (h' := am_up hR 373 0 (Int32.ofNat 0)) (L := fun c (s : Int32) => [.ref 0, .int (Int32.ofNat n), .int (Int32.ofNat w), .int s, .int (Int32.ofNat c)]) (M := fun c (t : Int32) => [.ref 373, .int (Int32.ofNat n), .int (Int32.ofNat w), .int t, .int (Int32.ofNat c)]) (P := fun c s t => s = t)
      (fun c s t hc p => by
        subst p
        by_cases h0 : w = 0
        · subst h0
          refine ⟨(Int32.ofNat 0), (Int32.ofNat 0), rfl, ?_, ?_⟩
          · rw [ggF_nothing_4]
            simp -implicitDefEqProofs (disch := (first | omega | assumption | exact am_isS_3 | exact am_isS_25 | exact am_isX_356 | exact am_isX_359)) only [ggF_nothing_0, ggF_nothing_1, ggF_nothing_2, ggF_nothing_3, ggF_nothing_5, ggF_nothing_6, ggF_nothing_7, ggF_nothing_8, ggF_nothing_9, ccF_nothing_3_1, am_kI_x, am_kV_x, am_kI_i, am_nI_i, am_kV_i, am_nV_i, ↓reduceIte, eq_self, if_true, if_false, c_in, c_tn, pn_add, pn_mul, pn_subc, pn_addm, c_le_t, c_le_f, c_lt_t, c_lt_f, c_eq_f, c_eqm, bi_z, bi_1, bi_b, bi_T, bi_F, ite_not, up_eq, up_ne, or_self, or_true, true_or, or_false, false_or, and_true, true_and, and_self, not_true_eq_false, not_false_eq_true, Bool.false_eq_true]
          · rw [ggR_nothing_6]
            simp -implicitDefEqProofs (disch := (first | omega | assumption | exact am_isS_3 | exact am_isS_25 | exact am_isX_356 | exact am_isX_359)) only [ggR_nothing_0, ggR_nothing_1, ggR_nothing_2, ggR_nothing_3, ggR_nothing_4, ggR_nothing_5, ggR_nothing_7, ggR_nothing_8, ggR_nothing_9, ggR_nothing_10, ggR_nothing_11, ccR_nothing_0_1, ccR_nothing_3_1, ccR_nothing_5_1, am_kI_x, am_kV_x, am_kI_i, am_nI_i, am_kV_i, am_nV_i, ↓reduceIte, eq_self, if_true, if_false, c_in, c_tn, pn_add, pn_mul, pn_subc, pn_addm, c_le_t, c_le_f, c_lt_t, c_lt_f, c_eq_f, c_eqm, bi_z, bi_1, bi_b, bi_T, bi_F, ite_not, up_eq, up_ne, or_self, or_true, true_or, or_false, false_or, and_true, true_and, and_self, not_true_eq_false, not_false_eq_true, Bool.false_eq_true]
        · refine ⟨s * hR.2 374 4 / (Int32.ofNat w), s * hR.2 374 4 / (Int32.ofNat w), rfl, ?_, ?_⟩
          · rw [ggF_nothing_4]
            simp -implicitDefEqProofs (disch := (first | omega | assumption | exact am_isS_3 | exact am_isS_25 | exact am_isX_356 | exact am_isX_359)) only [ggF_nothing_0, ggF_nothing_1, ggF_nothing_2, ggF_nothing_3, ggF_nothing_5, ggF_nothing_6, ggF_nothing_7, ggF_nothing_8, ggF_nothing_9, ccF_nothing_3_1, r10, am_kI_x, am_kV_x, am_kI_i, am_nI_i, am_kV_i, am_nV_i, ↓reduceIte, eq_self, if_true, if_false, c_in, c_tn, pn_add, pn_mul, pn_subc, pn_addm, c_le_t, c_le_f, c_lt_t, c_lt_f, c_eq_f, c_eqm, bi_z, bi_1, bi_b, bi_T, bi_F, ite_not, up_eq, up_ne, or_self, or_true, true_or, or_false, false_or, and_true, true_and, and_self, not_true_eq_false, not_false_eq_true, Bool.false_eq_true]
          · rw [ggR_nothing_6]
            simp -implicitDefEqProofs (disch := (first | omega | assumption | exact am_isS_3 | exact am_isS_25 | exact am_isX_356 | exact am_isX_359)) only [ggR_nothing_0, ggR_nothing_1, ggR_nothing_2, ggR_nothing_3, ggR_nothing_4, ggR_nothing_5, ggR_nothing_7, ggR_nothing_8, ggR_nothing_9, ggR_nothing_10, ggR_nothing_11, ccR_nothing_0_1, ccR_nothing_3_1, ccR_nothing_5_1, up_o, am_kI_x, am_kV_x, am_kI_i, am_nI_i, am_kV_i, am_nV_i, ↓reduceIte, eq_self, if_true, if_false, c_in, c_tn, pn_add, pn_mul, pn_subc, pn_addm, c_le_t, c_le_f, c_lt_t, c_lt_f, c_eq_f, c_eqm, bi_z, bi_1, bi_b, bi_T, bi_F, ite_not, up_eq, up_ne, or_self, or_true, true_or, or_false, false_or, and_true, true_and, and_self, not_true_eq_false, not_false_eq_true, Bool.false_eq_true])
      (fun s t p => by
        subst p
        refine ⟨s, ?_, ?_⟩
        · rw [ggF_nothing_4]
          simp -implicitDefEqProofs (disch := (first | omega | assumption | exact am_isS_3 | exact am_isS_25 | exact am_isX_356 | exact am_isX_359)) only [ggF_nothing_0, ggF_nothing_1, ggF_nothing_2, ggF_nothing_3, ggF_nothing_5, ggF_nothing_6, ggF_nothing_7, ggF_nothing_8, ggF_nothing_9, ccF_nothing_3_1, am_kI_x, am_kV_x, am_kI_i, am_nI_i, am_kV_i, am_nV_i, ↓reduceIte, eq_self, if_true, if_false, c_in, c_tn, pn_add, pn_mul, pn_subc, pn_addm, c_le_t, c_le_f, c_lt_t, c_lt_f, c_eq_f, c_eqm, bi_z, bi_1, bi_b, bi_T, bi_F, ite_not, up_eq, up_ne, or_self, or_true, true_or, or_false, false_or, and_true, true_and, and_self, not_true_eq_false, not_false_eq_true, Bool.false_eq_true]
        · rw [ggR_nothing_6]
          simp -implicitDefEqProofs (disch := (first | omega | assumption | exact am_isS_3 | exact am_isS_25 | exact am_isX_356 | exact am_isX_359)) only [ggR_nothing_0, ggR_nothing_1, ggR_nothing_2, ggR_nothing_3, ggR_nothing_4, ggR_nothing_5, ggR_nothing_7, ggR_nothing_8, ggR_nothing_9, ggR_nothing_10, ggR_nothing_11, ccR_nothing_0_1, ccR_nothing_3_1, ccR_nothing_5_1, am_kI_x, am_kV_x, am_kI_i, am_nI_i, am_kV_i, am_nV_i, ↓reduceIte, eq_self, if_true, if_false, c_in, c_tn, pn_add, pn_mul, pn_subc, pn_addm, c_le_t, c_le_f, c_lt_t, c_lt_f, c_eq_f, c_eqm, bi_z, bi_1, bi_b, bi_T, bi_F, ite_not, up_eq, up_ne, or_self, or_true, true_or, or_false, false_or, and_true, true_and, and_self, not_true_eq_false, not_false_eq_true, Bool.false_eq_true]) n 0 (Int32.ofNat 10000) (Int32.ofNat 10000) (by omega) rfl
    refine ⟨hC, am_up hR 373 0 (Int32.ofNat 0), J0, rfl, Or.inl ⟨v, rfl, up_eq rfl rfl, ?_, ?_⟩⟩
    · rw [← e1]
      simp -implicitDefEqProofs (disch := (first | omega | assumption | exact am_isS_3 | exact am_isS_25 | exact am_isX_356 | exact am_isX_359)) only [uF_nothing, ggF_nothing_0, ggF_nothing_1, ggF_nothing_2, ggF_nothing_3, ggF_nothing_5, ggF_nothing_6, ggF_nothing_7, ggF_nothing_8, ggF_nothing_9, ccF_nothing_3_1, aw_rel am_isS_3 R, ew, am_kI_x, am_kV_x, am_kI_i, am_nI_i, am_kV_i, am_nV_i, ↓reduceIte, eq_self, if_true, if_false, c_in, c_tn, pn_add, pn_mul, pn_subc, pn_addm, c_le_t, c_le_f, c_lt_t, c_lt_f, c_eq_f, c_eqm, bi_z, bi_1, bi_b, bi_T, bi_F, ite_not, up_eq, up_ne, or_self, or_true, true_or, or_false, false_or, and_true, true_and, and_self, not_true_eq_false, not_false_eq_true, Bool.false_eq_true]
    · rw [← e2]
      simp -implicitDefEqProofs (disch := (first | omega | assumption | exact am_isS_3 | exact am_isS_25 | exact am_isX_356 | exact am_isX_359)) only [uR_nothing, ggR_nothing_0, ggR_nothing_1, ggR_nothing_2, ggR_nothing_3, ggR_nothing_4, ggR_nothing_5, ggR_nothing_7, ggR_nothing_8, ggR_nothing_9, ggR_nothing_10, ggR_nothing_11, ccR_nothing_0_1, ccR_nothing_3_1, ccR_nothing_5_1, rR_in, rR_throwsIf_f, rR_allWeights, up_o, ew, k_373, am_kI_x, am_kV_x, am_kI_i, am_nI_i, am_kV_i, am_nV_i, ↓reduceIte, eq_self, if_true, if_false, c_in, c_tn, pn_add, pn_mul, pn_subc, pn_addm, c_le_t, c_le_f, c_lt_t, c_lt_f, c_eq_f, c_eqm, bi_z, bi_1, bi_b, bi_T, bi_F, ite_not, up_eq, up_ne, or_self, or_true, true_or, or_false, false_or, and_true, true_and, and_self, not_true_eq_false, not_false_eq_true, Bool.false_eq_true]
  · refine ⟨am_th hC, am_up (am_up hR 373 0 (Int32.ofNat 0)) 373 0 (Int32.ofNat 1), (J0.thr (Int32.ofNat 1)).th, rfl, Or.inr ⟨1, 1, (Int32.ofNat 0), rfl, by decide, up_eq rfl rfl, ?_, ?_⟩⟩
    · rcases b2 with b2 | ⟨b2, b3, b4⟩
      · simp -implicitDefEqProofs (disch := (first | omega | assumption | exact am_isS_3 | exact am_isS_25 | exact am_isX_356 | exact am_isX_359)) only [uF_nothing, ggF_nothing_0, ggF_nothing_1, ggF_nothing_2, ggF_nothing_3, ggF_nothing_5, ggF_nothing_6, ggF_nothing_7, ggF_nothing_8, ggF_nothing_9, ccF_nothing_3_1, b2, am_kI_x, am_kV_x, am_kI_i, am_nI_i, am_kV_i, am_nV_i, ↓reduceIte, eq_self, if_true, if_false, c_in, c_tn, pn_add, pn_mul, pn_subc, pn_addm, c_le_t, c_le_f, c_lt_t, c_lt_f, c_eq_f, c_eqm, bi_z, bi_1, bi_b, bi_T, bi_F, ite_not, up_eq, up_ne, or_self, or_true, true_or, or_false, false_or, and_true, true_and, and_self, not_true_eq_false, not_false_eq_true, Bool.false_eq_true]
      · simp -implicitDefEqProofs (disch := (first | omega | assumption | exact am_isS_3 | exact am_isS_25 | exact am_isX_356 | exact am_isX_359)) only [uF_nothing, ggF_nothing_0, ggF_nothing_1, ggF_nothing_2, ggF_nothing_3, ggF_nothing_5, ggF_nothing_6, ggF_nothing_7, ggF_nothing_8, ggF_nothing_9, ccF_nothing_3_1, b2, b3, am_kI_x, am_kV_x, am_kI_i, am_nI_i, am_kV_i, am_nV_i, ↓reduceIte, eq_self, if_true, if_false, c_in, c_tn, pn_add, pn_mul, pn_subc, pn_addm, c_le_t, c_le_f, c_lt_t, c_lt_f, c_eq_f, c_eqm, bi_z, bi_1, bi_b, bi_T, bi_F, ite_not, up_eq, up_ne, or_self, or_true, true_or, or_false, false_or, and_true, true_and, and_self, not_true_eq_false, not_false_eq_true, Bool.false_eq_true]
    · simp -implicitDefEqProofs (disch := (first | omega | assumption | exact am_isS_3 | exact am_isS_25 | exact am_isX_356 | exact am_isX_359)) only [uR_nothing, ggR_nothing_0, ggR_nothing_1, ggR_nothing_2, ggR_nothing_3, ggR_nothing_4, ggR_nothing_5, ggR_nothing_7, ggR_nothing_8, ggR_nothing_9, ggR_nothing_10, ggR_nothing_11, ccR_nothing_0_1, ccR_nothing_3_1, ccR_nothing_5_1, rR_in, rR_throwsIf_t, b1, k_373, am_kI_x, am_kV_x, am_kI_i, am_nI_i, am_kV_i, am_nV_i, ↓reduceIte, eq_self, if_true, if_false, c_in, c_tn, pn_add, pn_mul, pn_subc, pn_addm, c_le_t, c_le_f, c_lt_t, c_lt_f, c_eq_f, c_eqm, bi_z, bi_1, bi_b, bi_T, bi_F, ite_not, up_eq, up_ne, or_self, or_true, true_or, or_false, false_or, and_true, true_and, and_self, not_true_eq_false, not_false_eq_true, Bool.false_eq_true]
