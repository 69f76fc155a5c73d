/-! ahead, trial, waits, last -/
theorem T_ahead (x y : Int32) : Two qF_ahead [.ref 0, .int x, .int y] qR_ahead [.ref 373, .int x, .int y] (am_ctt 29) := by
  intro d hC hR J
  have J0 := J.thr (Int32.ofNat 0)
  obtain ⟨⟨N0, G0, R0, okt0, okc0, okk0, RL0⟩, -⟩ := id J
  have hN0 := R0.1
  have z3 := R0.2.2.1
  have z4 := R0.2.2.2.1
  rcases ch_cases hN0 x with ⟨c, hc, rfl⟩ | ⟨b1, b2⟩
  · have hc8 : c < 8 := by omega
    rcases rng_cases 100 (by omega) y with ⟨n, hn, rfl⟩ | ⟨b1, b2⟩
    · obtain ⟨N, G, hC2, hR2, L2, q1, q2, q3, q4, J3, e1, v, e2⟩ := ahead_both J0 hn (D := d + 119) (by omega)
      obtain ⟨R, okt, okc, okk, RL⟩ := id L2
      have r12 := R.2.2.2.2.2.2.2.2.2.2.2.1 2 c (by omega) hc8
      have eg : ∀ d, am_cl (d + 1) qR_keepsAll [.ref 373] (am_up hR 373 0 (Int32.ofNat 0)) = some (.inl none, lent (am_up hR 373 0 (Int32.ofNat 0))) := fun d => rR_keepsAll d _
      have ebb : ∀ d, am_cl (d + 1) qR_bringsBack [.ref 373] hR2 = some (.inl none, given hR2) := fun d => rR_bringsBack d _
      refine ⟨hC2, given hR2, J3, q2, Or.inl ⟨hR2.2 374 (43 + 9 * c + 2), q1, ?_, ?_, ?_⟩⟩
      · unfold given
        rw [cw_ne (by omega), q3]; exact up_eq rfl rfl
      · simp -implicitDefEqProofs (disch := (first | omega | assumption | exact am_isS_3 | exact am_isS_25 | exact am_isX_356 | exact am_isX_359)) only [uF_ahead, ggF_ahead_0, ccF_ahead_0_3, ccF_ahead_0_2, ccF_ahead_0_1, xF_needChild hN0 z4 hc, xF_needAhead, e1, r12, am_kI_x, am_kV_x, am_kI_i, am_nI_i, am_kV_i, am_nV_i, ↓reduceIte, eq_self, if_true, if_false, c_in, c_tn, pn_add, pn_mul, pn_subc, pn_addm, c_le_t, c_le_f, c_lt_t, c_lt_f, c_eq_f, c_eqm, bi_z, bi_1, bi_b, bi_T, bi_F, ite_not, up_eq, up_ne, or_self, or_true, true_or, or_false, false_or, and_true, true_and, and_self, not_true_eq_false, not_false_eq_true, Bool.false_eq_true]
      · simp -implicitDefEqProofs (disch := (first | omega | assumption | exact am_isS_3 | exact am_isS_25 | exact am_isX_356 | exact am_isX_359)) only [uR_ahead, ggR_ahead_0, ggR_ahead_1, ggR_ahead_2, ggR_ahead_3, ccR_ahead_0_2, ccR_ahead_0_1, ccR_ahead_1_2, ccR_ahead_1_1, ccR_ahead_3_4, ccR_ahead_3_3, ccR_ahead_3_2, ccR_ahead_3_1, rR_noChild, rR_noAhead, rR_throwsIf_f, eg, e2, rR_of, ebb, k_373, up_o, z3, am_kI_x, am_kV_x, am_kI_i, am_nI_i, am_kV_i, am_nV_i, ↓reduceIte, eq_self, if_true, if_false, c_in, c_tn, pn_add, pn_mul, pn_subc, pn_addm, c_le_t, c_le_f, c_lt_t, c_lt_f, c_eq_f, c_eqm, bi_z, bi_1, bi_b, bi_T, bi_F, ite_not, up_eq, up_ne, or_self, or_true, true_or, or_false, false_or, and_true, true_and, and_self, not_true_eq_false, not_false_eq_true, Bool.false_eq_true]
    · refine ⟨am_th hC, am_up (am_up hR 373 0 (Int32.ofNat 0)) 373 0 (Int32.ofNat 2), (J0.thr (Int32.ofNat 2)).th, rfl, Or.inr ⟨1, 2, (Int32.ofNat 0), rfl, by decide, up_eq rfl rfl, ?_, ?_⟩⟩
      · simp -implicitDefEqProofs (disch := (first | omega | assumption | exact am_isS_3 | exact am_isS_25 | exact am_isX_356 | exact am_isX_359)) only [uF_ahead, ggF_ahead_0, ccF_ahead_0_3, ccF_ahead_0_2, ccF_ahead_0_1, xF_needChild hN0 z4 hc, xF_needAhead_x b2, am_kI_x, am_kV_x, am_kI_i, am_nI_i, am_kV_i, am_nV_i, ↓reduceIte, eq_self, if_true, if_false, c_in, c_tn, pn_add, pn_mul, pn_subc, pn_addm, c_le_t, c_le_f, c_lt_t, c_lt_f, c_eq_f, c_eqm, bi_z, bi_1, bi_b, bi_T, bi_F, ite_not, up_eq, up_ne, or_self, or_true, true_or, or_false, false_or, and_true, true_and, and_self, not_true_eq_false, not_false_eq_true, Bool.false_eq_true]
      · simp -implicitDefEqProofs (disch := (first | omega | assumption | exact am_isS_3 | exact am_isS_25 | exact am_isX_356 | exact am_isX_359)) only [uR_ahead, ggR_ahead_0, ggR_ahead_1, ggR_ahead_2, ggR_ahead_3, ccR_ahead_0_2, ccR_ahead_0_1, ccR_ahead_1_2, ccR_ahead_1_1, ccR_ahead_3_4, ccR_ahead_3_3, ccR_ahead_3_2, ccR_ahead_3_1, rR_noChild, rR_noAhead, rR_throwsIf_f, rR_throwsIf_t, b1, k_373, up_o, z3, am_kI_x, am_kV_x, am_kI_i, am_nI_i, am_kV_i, am_nV_i, ↓reduceIte, eq_self, if_true, if_false, c_in, c_tn, pn_add, pn_mul, pn_subc, pn_addm, c_le_t, c_le_f, c_lt_t, c_lt_f, c_eq_f, c_eqm, bi_z, bi_1, bi_b, bi_T, bi_F, ite_not, up_eq, up_ne, or_self, or_true, true_or, or_false, false_or, and_true, true_and, and_self, not_true_eq_false, not_false_eq_true, Bool.false_eq_true]
  · refine ⟨am_th hC, am_up (am_up hR 373 0 (Int32.ofNat 0)) 373 0 (Int32.ofNat 1), (J0.thr (Int32.ofNat 1)).th, rfl, Or.inr ⟨3, 1, (Int32.ofNat 0), rfl, by decide, up_eq rfl rfl, ?_, ?_⟩⟩
    · simp -implicitDefEqProofs (disch := (first | omega | assumption | exact am_isS_3 | exact am_isS_25 | exact am_isX_356 | exact am_isX_359)) only [uF_ahead, ggF_ahead_0, ccF_ahead_0_3, ccF_ahead_0_2, ccF_ahead_0_1, xF_needChild_x z4 b2, am_kI_x, am_kV_x, am_kI_i, am_nI_i, am_kV_i, am_nV_i, ↓reduceIte, eq_self, if_true, if_false, c_in, c_tn, pn_add, pn_mul, pn_subc, pn_addm, c_le_t, c_le_f, c_lt_t, c_lt_f, c_eq_f, c_eqm, bi_z, bi_1, bi_b, bi_T, bi_F, ite_not, up_eq, up_ne, or_self, or_true, true_or, or_false, false_or, and_true, true_and, and_self, not_true_eq_false, not_false_eq_true, Bool.false_eq_true]
    · simp -implicitDefEqProofs (disch := (first | omega | assumption | exact am_isS_3 | exact am_isS_25 | exact am_isX_356 | exact am_isX_359)) only [uR_ahead, ggR_ahead_0, ggR_ahead_1, ggR_ahead_2, ggR_ahead_3, ccR_ahead_0_2, ccR_ahead_0_1, ccR_ahead_1_2, ccR_ahead_1_1, ccR_ahead_3_4, ccR_ahead_3_3, ccR_ahead_3_2, ccR_ahead_3_1, rR_noChild, rR_throwsIf_t, b1, k_373, up_o, z3, am_kI_x, am_kV_x, am_kI_i, am_nI_i, am_kV_i, am_nV_i, ↓reduceIte, eq_self, if_true, if_false, c_in, c_tn, pn_add, pn_mul, pn_subc, pn_addm, c_le_t, c_le_f, c_lt_t, c_lt_f, c_eq_f, c_eqm, bi_z, bi_1, bi_b, bi_T, bi_F, ite_not, up_eq, up_ne, or_self, or_true, true_or, or_false, false_or, and_true, true_and, and_self, not_true_eq_false, not_false_eq_true, Bool.false_eq_true]
theorem T_trial (x y : Int32) : Two qF_trial [.ref 0, .int x, .int y] qR_trial [.ref 373, .int x, .int y] (am_ctt 30) := by
  intro d hC hR J
  have J0 := J.thr (Int32.ofNat 0)
  rcases rng_cases 100 (by omega) x with ⟨n, hn, rfl⟩ | ⟨b1, b2⟩
  · obtain ⟨⟨N, G, L⟩, -⟩ := id J0
    obtain ⟨hC1, a1, a2, a3, a4⟩ := copy25 (hC := hC) (d + 116)
    have L1 := (a4 _ N G L).row (hR' := lent (am_up hR 373 0 (Int32.ofNat 0))) lent_374
    obtain ⟨g, hC2, hR2, g1, L2, f1, f2, e1, e2⟩ := try_l (n := n) (by omega) (D := d + 118) (by omega) (hC.2 3 7) n 0 0 G hC1 (lent (am_up hR 373 0 (Int32.ofNat 0))) (by omega) (by omega) L1
    have s7 : hC1.2 25 7 = hC.2 3 7 := by rw [L1.1.2.2.2.2.2.2.2.2.1, lent_374]; exact L.1.2.2.2.2.2.2.2.2.1.symm
    have us : am_up hC1 25 7 (hC.2 3 7) = hC1 := up_self s7
    have J3 : J2 hC2 (given hR2) := ahead_end J0 (fun p q1 q2 q3 => by rw [f1.2 p (by omega) q2 q3, a3 p q1]) f2.2 L2.2.2.2.2
    obtain ⟨R, okt, okc, okk, RL⟩ := id L2
    have hN := R.1
    have r3 := R.2.2.1
    have r4 := R.2.2.2.1
    have eT : am_cl (d + 119) qF_tryMonths [.ref 0, .int (Int32.ofNat n), .int (hC.2 3 7)] hC = some (.inl none, hC2) := by
      have a1 := am_cl_le (d' := d + 118) (by omega) a1
      simp -implicitDefEqProofs (disch := (first | omega | assumption | exact am_isS_3 | exact am_isS_25 | exact am_isX_356 | exact am_isX_359)) only [uF_tryMonths, ggF_tryMonths_0, ggF_tryMonths_2, ggF_tryMonths_3, ccF_tryMonths_0_1, ccF_tryMonths_2_1, a1, us, am_kI_x, am_kV_x, am_kI_i, am_nI_i, am_kV_i, am_nV_i, ↓reduceIte, eq_self, if_true, if_false, c_in, c_tn, pn_add, pn_mul, pn_subc, pn_addm, c_le_t, c_le_f, c_lt_t, c_lt_f, c_eq_f, c_eqm, bi_z, bi_1, bi_b, bi_T, bi_F, ite_not, up_eq, up_ne, or_self, or_true, true_or, or_false, false_or, and_true, true_and, and_self, not_true_eq_false, not_false_eq_true, Bool.false_eq_true]
      exact e1
    have eg2 : am_cl (d + 119) qR_goesOn [.ref 373, .int (Int32.ofNat n), .int (Int32.ofNat 0)] (lent (am_up hR 373 0 (Int32.ofNat 0))) = some (.inl (some ((Int32.ofNat (0 + g)))), hR2) := by
      rw [uR_goesOn, ggR_goesOn_0]; exact e2
    have eg : ∀ d, am_cl (d + 1) qR_keepsAll [.ref 373] (am_up hR 373 0 (Int32.ofNat 0)) = some (.inl none, lent (am_up hR 373 0 (Int32.ofNat 0))) := fun d => rR_keepsAll d _
    have ebb : ∀ d, am_cl (d + 1) qR_bringsBack [.ref 373] hR2 = some (.inl none, given hR2) := fun d => rR_bringsBack d _
    have q3 : hR2.2 373 = (am_up hR 373 0 (Int32.ofNat 0)).2 373 := (f2.2 373 (by omega) (by omega)).trans (cw_ne (by omega))
    refine ⟨hC2, given hR2, J3, f2.1, Or.inl ⟨if y = (Int32.ofNat 0) then bset (fun c => decide (hR2.2 374 (43 + 9 * c + 7) = (Int32.ofNat 1))) N else sum (fun c => hR2.2 374 (43 + 9 * c + 6)) N, f1.1.trans a2, ?_, ?_, ?_⟩⟩
    · unfold given
      rw [cw_ne (by omega), q3]; exact up_eq rfl rfl
    · by_cases hy : y = (Int32.ofNat 0)
      · rw [if_pos hy]
        have eb := bs_rel R (k := 7) (by omega) (Int32.ofNat 1)
        simp -implicitDefEqProofs (disch := (first | omega | assumption | exact am_isS_3 | exact am_isS_25 | exact am_isX_356 | exact am_isX_359)) only [uF_trial, ggF_trial_0, ggF_trial_1, ggF_trial_2, ggF_trial_3, ccF_trial_0_2, ccF_trial_0_1, ccF_trial_1_1, ccF_trial_2_1, xF_needAhead, eT, hy, sS_bitsOf am_isS_25 hN r4, eb, am_kI_x, am_kV_x, am_kI_i, am_nI_i, am_kV_i, am_nV_i, ↓reduceIte, eq_self, if_true, if_false, c_in, c_tn, pn_add, pn_mul, pn_subc, pn_addm, c_le_t, c_le_f, c_lt_t, c_lt_f, c_eq_f, c_eqm, bi_z, bi_1, bi_b, bi_T, bi_F, ite_not, up_eq, up_ne, or_self, or_true, true_or, or_false, false_or, and_true, true_and, and_self, not_true_eq_false, not_false_eq_true, Bool.false_eq_true]
      · rw [if_neg hy]
        simp -implicitDefEqProofs (disch := (first | omega | assumption | exact am_isS_3 | exact am_isS_25 | exact am_isX_356 | exact am_isX_359)) only [uF_trial, ggF_trial_0, ggF_trial_1, ggF_trial_2, ggF_trial_3, ccF_trial_0_2, ccF_trial_0_1, ccF_trial_1_1, ccF_trial_2_1, xF_needAhead, eT, hy, af_rel am_isS_25 R, am_kI_x, am_kV_x, am_kI_i, am_nI_i, am_kV_i, am_nV_i, ↓reduceIte, eq_self, if_true, if_false, c_in, c_tn, pn_add, pn_mul, pn_subc, pn_addm, c_le_t, c_le_f, c_lt_t, c_lt_f, c_eq_f, c_eqm, bi_z, bi_1, bi_b, bi_T, bi_F, ite_not, up_eq, up_ne, or_self, or_true, true_or, or_false, false_or, and_true, true_and, and_self, not_true_eq_false, not_false_eq_true, Bool.false_eq_true]
    · by_cases hy : y = (Int32.ofNat 0)
      · rw [if_pos hy]
        simp -implicitDefEqProofs (disch := (first | omega | assumption | exact am_isS_3 | exact am_isS_25 | exact am_isX_356 | exact am_isX_359)) only [uR_trial, ggR_trial_0, ggR_trial_1, ggR_trial_2, ggR_trial_3, ggR_trial_4, ggR_trial_5, ccR_trial_0_2, ccR_trial_0_1, ccR_trial_2_2, ccR_trial_2_1, ccR_trial_3_1, ccR_trial_4_1, ccR_trial_5_1, rR_noAhead, rR_throwsIf_f, eg, eg2, hy, rR_openedOnes hN r3, ebb, k_373, am_kI_x, am_kV_x, am_kI_i, am_nI_i, am_kV_i, am_nV_i, ↓reduceIte, eq_self, if_true, if_false, c_in, c_tn, pn_add, pn_mul, pn_subc, pn_addm, c_le_t, c_le_f, c_lt_t, c_lt_f, c_eq_f, c_eqm, bi_z, bi_1, bi_b, bi_T, bi_F, ite_not, up_eq, up_ne, or_self, or_true, true_or, or_false, false_or, and_true, true_and, and_self, not_true_eq_false, not_false_eq_true, Bool.false_eq_true]
      · rw [if_neg hy]
        simp -implicitDefEqProofs (disch := (first | omega | assumption | exact am_isS_3 | exact am_isS_25 | exact am_isX_356 | exact am_isX_359)) only [uR_trial, ggR_trial_0, ggR_trial_1, ggR_trial_2, ggR_trial_3, ggR_trial_4, ggR_trial_5, ccR_trial_0_2, ccR_trial_0_1, ccR_trial_2_2, ccR_trial_2_1, ccR_trial_3_1, ccR_trial_4_1, ccR_trial_5_1, rR_noAhead, rR_throwsIf_f, eg, eg2, hy, rR_fateOfAll hN r3, ebb, k_373, am_kI_x, am_kV_x, am_kI_i, am_nI_i, am_kV_i, am_nV_i, ↓reduceIte, eq_self, if_true, if_false, c_in, c_tn, pn_add, pn_mul, pn_subc, pn_addm, c_le_t, c_le_f, c_lt_t, c_lt_f, c_eq_f, c_eqm, bi_z, bi_1, bi_b, bi_T, bi_F, ite_not, up_eq, up_ne, or_self, or_true, true_or, or_false, false_or, and_true, true_and, and_self, not_true_eq_false, not_false_eq_true, Bool.false_eq_true]
  · refine ⟨am_th hC, am_up (am_up hR 373 0 (Int32.ofNat 0)) 373 0 (Int32.ofNat 1), (J0.thr (Int32.ofNat 1)).th, rfl, Or.inr ⟨1, 1, (Int32.ofNat 0), rfl, by decide, up_eq rfl rfl, ?_, ?_⟩⟩
    · simp -implicitDefEqProofs (disch := (first | omega | assumption | exact am_isS_3 | exact am_isS_25 | exact am_isX_356 | exact am_isX_359)) only [uF_trial, ggF_trial_0, ggF_trial_1, ggF_trial_2, ggF_trial_3, ccF_trial_0_2, ccF_trial_0_1, ccF_trial_1_1, ccF_trial_2_1, xF_needAhead_x b2, am_kI_x, am_kV_x, am_kI_i, am_nI_i, am_kV_i, am_nV_i, ↓reduceIte, eq_self, if_true, if_false, c_in, c_tn, pn_add, pn_mul, pn_subc, pn_addm, c_le_t, c_le_f, c_lt_t, c_lt_f, c_eq_f, c_eqm, bi_z, bi_1, bi_b, bi_T, bi_F, ite_not, up_eq, up_ne, or_self, or_true, true_or, or_false, false_or, and_true, true_and, and_self, not_true_eq_false, not_false_eq_true, Bool.false_eq_true]
    · simp -implicitDefEqProofs (disch := (first | omega | assumption | exact am_isS_3 | exact am_isS_25 | exact am_isX_356 | exact am_isX_359)) only [uR_trial, ggR_trial_0, ggR_trial_1, ggR_trial_2, ggR_trial_3, ggR_trial_4, ggR_trial_5, ccR_trial_0_2, ccR_trial_0_1, ccR_trial_2_2, ccR_trial_2_1, ccR_trial_3_1, ccR_trial_4_1, ccR_trial_5_1, rR_noAhead, rR_throwsIf_t, b1, k_373, am_kI_x, am_kV_x, am_kI_i, am_nI_i, am_kV_i, am_nV_i, ↓reduceIte, eq_self, if_true, if_false, c_in, c_tn, pn_add, pn_mul, pn_subc, pn_addm, c_le_t, c_le_f, c_lt_t, c_lt_f, c_eq_f, c_eqm, bi_z, bi_1, bi_b, bi_T, bi_F, ite_not, up_eq, up_ne, or_self, or_true, true_or, or_false, false_or, and_true, true_and, and_self, not_true_eq_false, not_false_eq_true, Bool.false_eq_true]
theorem rR_bb (d : Nat) (h : am_H) : am_cl (d + 1) qR_bringsBack [.ref 373] h = some (.inl none, given h) := rR_bringsBack d h
theorem rR_ka (d : Nat) (h : am_H) : am_cl (d + 1) qR_keepsAll [.ref 373] h = some (.inl none, lent h) := rR_keepsAll d h
theorem last_l {N : Nat} {D : Nat} (hD : 20 ≤ D) : ∀ (k i G : Nat) (x : Int32) (hC hR : am_H), i + k = 101 → Lk hC hR 25 N G → ∃ v hC' hR' G', Lk hC' hR' 25 N G' ∧ frC 25 hC hC' ∧ frR hR hR' ∧ am_go (am_cl D) qF_last 1 [.ref 0, .int x, .int (Int32.ofNat i)] [] hC = some (.inl (some (v)), hC') ∧ am_go (am_cl (D - 1 + 1)) qR_last 1 [.ref 373, .int x, .int (Int32.ofNat i)] [] hR = some (.inl (some (v)), given hR') := by
  intro k
  induction k with
  | zero =>
    intro i G x hC hR hi L
    have hi : i = 101 := by omega
    subst hi
    refine ⟨x, hC, hR, G, L, frC.rf, frR.rf, ?_, ?_⟩
    · rw [ggF_last_1]
      simp -implicitDefEqProofs (disch := (first | omega | assumption | exact am_isS_3 | exact am_isS_25 | exact am_isX_356 | exact am_isX_359)) only [ggF_last_0, ggF_last_2, ggF_last_3, ggF_last_4, ggF_last_5, ccF_last_0_1, ccF_last_2_1, am_kI_x, am_kV_x, am_kI_i, am_nI_i, am_kV_i, am_nV_i, ↓reduceIte, eq_self, if_true, if_false, c_in, c_tn, pn_add, pn_mul, pn_subc, pn_addm, c_le_t, c_le_f, c_lt_t, c_lt_f, c_eq_f, c_eqm, bi_z, bi_1, bi_b, bi_T, bi_F, ite_not, up_eq, up_ne, or_self, or_true, true_or, or_false, false_or, and_true, true_and, and_self, not_true_eq_false, not_false_eq_true, Bool.false_eq_true]
    · rw [ggR_last_1]
      simp -implicitDefEqProofs (disch := (first | omega | assumption | exact am_isS_3 | exact am_isS_25 | exact am_isX_356 | exact am_isX_359)) only [ggR_last_0, ggR_last_2, ggR_last_3, ggR_last_4, ggR_last_5, ggR_last_6, ccR_last_0_1, ccR_last_2_1, ccR_last_6_1, rR_bb, am_kI_x, am_kV_x, am_kI_i, am_nI_i, am_kV_i, am_nV_i, ↓reduceIte, eq_self, if_true, if_false, c_in, c_tn, pn_add, pn_mul, pn_subc, pn_addm, c_le_t, c_le_f, c_lt_t, c_lt_f, c_eq_f, c_eqm, bi_z, bi_1, bi_b, bi_T, bi_F, ite_not, up_eq, up_ne, or_self, or_true, true_or, or_false, false_or, and_true, true_and, and_self, not_true_eq_false, not_false_eq_true, Bool.false_eq_true]
  | succ k ih =>
    intro i G x hC hR hi L
    obtain ⟨g, hC1, hR1, g1, L1, f1, f2, -, e1, e2⟩ := pass_calm am_isS_25 (by omega) L 0
    have e1 := am_cl_le (d' := D) (by omega) e1
    have e2 := am_cl_le (d' := D - 1 + 1) (by omega) e2
    obtain ⟨v, hC2, hR2, G2, L2, f3, f4, e3, e4⟩ := ih (i + 1) (G + g) (if g = 0 then x else (Int32.ofNat i)) hC1 hR1 (by omega) L1
    refine ⟨v, hC2, hR2, G2, L2, f1.tr f3, f2.tr f4, ?_, ?_⟩
    · rw [← e3, ggF_last_1]
      by_cases h0 : g = 0
      · subst h0
        simp -implicitDefEqProofs (disch := (first | omega | assumption | exact am_isS_3 | exact am_isS_25 | exact am_isX_356 | exact am_isX_359)) only [ggF_last_0, ggF_last_2, ggF_last_3, ggF_last_4, ggF_last_5, ccF_last_0_1, ccF_last_2_1, e1, am_kI_x, am_kV_x, am_kI_i, am_nI_i, am_kV_i, am_nV_i, ↓reduceIte, eq_self, if_true, if_false, c_in, c_tn, pn_add, pn_mul, pn_subc, pn_addm, c_le_t, c_le_f, c_lt_t, c_lt_f, c_eq_f, c_eqm, bi_z, bi_1, bi_b, bi_T, bi_F, ite_not, up_eq, up_ne, or_self, or_true, true_or, or_false, false_or, and_true, true_and, and_self, not_true_eq_false, not_false_eq_true, Bool.false_eq_true]
      · rw [if_neg h0]
        simp -implicitDefEqProofs (disch := (first | omega | assumption | exact am_isS_3 | exact am_isS_25 | exact am_isX_356 | exact am_isX_359)) only [ggF_last_0, ggF_last_2, ggF_last_3, ggF_last_4, ggF_last_5, ccF_last_0_1, ccF_last_2_1, e1, am_kI_x, am_kV_x, am_kI_i, am_nI_i, am_kV_i, am_nV_i, ↓reduceIte, eq_self, if_true, if_false, c_in, c_tn, pn_add, pn_mul, pn_subc, pn_addm, c_le_t, c_le_f, c_lt_t, c_lt_f, c_eq_f, c_eqm, bi_z, bi_1, bi_b, bi_T, bi_F, ite_not, up_eq, up_ne, or_self, or_true, true_or, or_false, false_or, and_true, true_and, and_self, not_true_eq_false, not_false_eq_true, Bool.false_eq_true]
    · rw [← e4, ggR_last_1]
      by_cases h0 : g = 0
      · subst h0
        simp -implicitDefEqProofs (disch := (first | omega | assumption | exact am_isS_3 | exact am_isS_25 | exact am_isX_356 | exact am_isX_359)) only [ggR_last_0, ggR_last_2, ggR_last_3, ggR_last_4, ggR_last_5, ggR_last_6, ccR_last_0_1, ccR_last_2_1, ccR_last_6_1, e2, am_kI_x, am_kV_x, am_kI_i, am_nI_i, am_kV_i, am_nV_i, ↓reduceIte, eq_self, if_true, if_false, c_in, c_tn, pn_add, pn_mul, pn_subc, pn_addm, c_le_t, c_le_f, c_lt_t, c_lt_f, c_eq_f, c_eqm, bi_z, bi_1, bi_b, bi_T, bi_F, ite_not, up_eq, up_ne, or_self, or_true, true_or, or_false, false_or, and_true, true_and, and_self, not_true_eq_false, not_false_eq_true, Bool.false_eq_true]
      · rw [if_neg h0]
        simp -implicitDefEqProofs (disch := (first | omega | assumption | exact am_isS_3 | exact am_isS_25 | exact am_isX_356 | exact am_isX_359)) only [ggR_last_0, ggR_last_2, ggR_last_3, ggR_last_4, ggR_last_5, ggR_last_6, ccR_last_0_1, ccR_last_2_1, ccR_last_6_1, e2, am_kI_x, am_kV_x, am_kI_i, am_nI_i, am_kV_i, am_nV_i, ↓reduceIte, eq_self, if_true, if_false, c_in, c_tn, pn_add, pn_mul, pn_subc, pn_addm, c_le_t, c_le_f, c_lt_t, c_lt_f, c_eq_f, c_eqm, bi_z, bi_1, bi_b, bi_T, bi_F, ite_not, up_eq, up_ne, or_self, or_true, true_or, or_false, false_or, and_true, true_and, and_self, not_true_eq_false, not_false_eq_true, Bool.false_eq_true]
theorem T_last : Ans qF_last [.ref 0] qR_last [.ref 373] := by
  intro d hC hR J
  have J0 := J.thr (Int32.ofNat 0)
  obtain ⟨⟨N, G, L⟩, -⟩ := id J0
  obtain ⟨hC1, a1, a2, a3, a4⟩ := copy25 (hC := hC) (d + 117)
  have L1 := (a4 _ N G L).row (hR' := lent (am_up hR 373 0 (Int32.ofNat 0))) lent_374
  obtain ⟨v, hC2, hR2, G2, L2, f1, f2, e1, e2⟩ := last_l (D := d + 119) (by omega) 100 1 G (-1) hC1 (lent (am_up hR 373 0 (Int32.ofNat 0))) (by omega) L1
  have J3 : J2 hC2 (given hR2) := ahead_end J0 (fun p q1 q2 q3 => by rw [f1.2 p (by omega) q2 q3, a3 p q1]) f2.2 L2.2.2.2.2
  have q3 : hR2.2 373 = (am_up hR 373 0 (Int32.ofNat 0)).2 373 := (f2.2 373 (by omega) (by omega)).trans (cw_ne (by omega))
  refine ⟨v, hC2, given hR2, J3, f1.1.trans a2, f2.1, ?_, ?_, ?_⟩
  · unfold given
    rw [cw_ne (by omega), q3]; exact up_eq rfl rfl
  · simp -implicitDefEqProofs (disch := (first | omega | assumption | exact am_isS_3 | exact am_isS_25 | exact am_isX_356 | exact am_isX_359)) only [uF_last, ggF_last_0, ggF_last_2, ggF_last_3, ggF_last_4, ggF_last_5, ccF_last_0_1, ccF_last_2_1, a1, am_kI_x, am_kV_x, am_kI_i, am_nI_i, am_kV_i, am_nV_i, ↓reduceIte, eq_self, if_true, if_false, c_in, c_tn, pn_add, pn_mul, pn_subc, pn_addm, c_le_t, c_le_f, c_lt_t, c_lt_f, c_eq_f, c_eqm, bi_z, bi_1, bi_b, bi_T, bi_F, ite_not, up_eq, up_ne, or_self, or_true, true_or, or_false, false_or, and_true, true_and, and_self, not_true_eq_false, not_false_eq_true, Bool.false_eq_true]
    exact e1
  · simp -implicitDefEqProofs (disch := (first | omega | assumption | exact am_isS_3 | exact am_isS_25 | exact am_isX_356 | exact am_isX_359)) only [uR_last, ggR_last_0, ggR_last_2, ggR_last_3, ggR_last_4, ggR_last_5, ggR_last_6, ccR_last_0_1, ccR_last_2_1, ccR_last_6_1, rR_ka, am_kI_x, am_kV_x, am_kI_i, am_nI_i, am_kV_i, am_nV_i, ↓reduceIte, eq_self, if_true, if_false, c_in, c_tn, pn_add, pn_mul, pn_subc, pn_addm, c_le_t, c_le_f, c_lt_t, c_lt_f, c_eq_f, c_eqm, bi_z, bi_1, bi_b, bi_T, bi_F, ite_not, up_eq, up_ne, or_self, or_true, true_or, or_false, false_or, and_true, true_and, and_self, not_true_eq_false, not_false_eq_true, Bool.false_eq_true]
    exact e2
theorem waits_l {N c : Nat} (hcN : c < N) {D : Nat} (hD : 20 ≤ D) : ∀ (k i G : Nat) (hC hR : am_H), i + k = 101 → Lk hC hR 25 N G → ∃ v hC' hR', RelL hC' 335 (hR'.2 374) ∧ frC 25 hC hC' ∧ frR hR hR' ∧ am_go (am_cl D) qF_waits 1 [.ref 0, .int (Int32.ofNat c), .int (Int32.ofNat i)] [] hC = some (.inl (some (v)), hC') ∧ am_go (am_cl (D - 3 + 3)) qR_waits 3 [.ref 373, .int (Int32.ofNat c), .int (-1), .int (Int32.ofNat i)] [] hR = some (.inl (some (v)), given hR') := by
  intro k
  induction k with
  | zero =>
    intro i G hC hR hi L
    have hi : i = 101 := by omega
    subst hi
    refine ⟨-1, hC, hR, L.2.2.2.2, frC.rf, frR.rf, ?_, ?_⟩
    · rw [ggF_waits_1]
      simp -implicitDefEqProofs (disch := (first | omega | assumption | exact am_isS_3 | exact am_isS_25 | exact am_isX_356 | exact am_isX_359)) only [ggF_waits_0, ggF_waits_2, ggF_waits_3, ggF_waits_4, ggF_waits_5, ccF_waits_0_2, ccF_waits_0_1, ccF_waits_4_1, am_kI_x, am_kV_x, am_kI_i, am_nI_i, am_kV_i, am_nV_i, ↓reduceIte, eq_self, if_true, if_false, c_in, c_tn, pn_add, pn_mul, pn_subc, pn_addm, c_le_t, c_le_f, c_lt_t, c_lt_f, c_eq_f, c_eqm, bi_z, bi_1, bi_b, bi_T, bi_F, ite_not, up_eq, up_ne, or_self, or_true, true_or, or_false, false_or, and_true, true_and, and_self, not_true_eq_false, not_false_eq_true, Bool.false_eq_true]
    · rw [ggR_waits_3]
      simp -implicitDefEqProofs (disch := (first | omega | assumption | exact am_isS_3 | exact am_isS_25 | exact am_isX_356 | exact am_isX_359)) only [ggR_waits_0, ggR_waits_1, ggR_waits_2, ggR_waits_4, ggR_waits_5, ggR_waits_6, ggR_waits_7, ggR_waits_8, ggR_waits_9, ccR_waits_0_2, ccR_waits_0_1, ccR_waits_2_1, ccR_waits_5_1, ccR_waits_8_1, ccR_waits_9_1, rR_bb, am_kI_x, am_kV_x, am_kI_i, am_nI_i, am_kV_i, am_nV_i, ↓reduceIte, eq_self, if_true, if_false, c_in, c_tn, pn_add, pn_mul, pn_subc, pn_addm, c_le_t, c_le_f, c_lt_t, c_lt_f, c_eq_f, c_eqm, bi_z, bi_1, bi_b, bi_T, bi_F, ite_not, up_eq, up_ne, or_self, or_true, true_or, or_false, false_or, and_true, true_and, and_self, not_true_eq_false, not_false_eq_true, Bool.false_eq_true]
  | succ k ih =>
    intro i G hC hR hi L
    obtain ⟨R, okt, okc, okk, RL⟩ := id L
    have hN := R.1
    have hc8 : c < 8 := by omega
    have r12 := R.2.2.2.2.2.2.2.2.2.2.2.1 7 c (by omega) hc8
    obtain ⟨w, hw, ew⟩ := (okc c hcN).2.2.2.2.2.2.2.1
    obtain ⟨g, hC1, hR1, g1, L1, f1, f2, -, e1, e2⟩ := pass_calm am_isS_25 (by omega) L 0
    have e1 := am_cl_le (d' := D) (by omega) e1
    have e2 := am_cl_le (d' := D - 3 + 3) (by omega) e2
    by_cases h0 : w = 0
    · subst h0
      obtain ⟨v, hC2, hR2, L2, f3, f4, e3, e4⟩ := ih (i + 1) (G + g) hC1 hR1 (by omega) L1
      refine ⟨v, hC2, hR2, L2, f1.tr f3, f2.tr f4, ?_, ?_⟩
      · rw [← e3, ggF_waits_1]
        simp -implicitDefEqProofs (disch := (first | omega | assumption | exact am_isS_3 | exact am_isS_25 | exact am_isX_356 | exact am_isX_359)) only [ggF_waits_0, ggF_waits_2, ggF_waits_3, ggF_waits_4, ggF_waits_5, ccF_waits_0_2, ccF_waits_0_1, ccF_waits_4_1, r12, ew, e1, am_kI_x, am_kV_x, am_kI_i, am_nI_i, am_kV_i, am_nV_i, ↓reduceIte, eq_self, if_true, if_false, c_in, c_tn, pn_add, pn_mul, pn_subc, pn_addm, c_le_t, c_le_f, c_lt_t, c_lt_f, c_eq_f, c_eqm, bi_z, bi_1, bi_b, bi_T, bi_F, ite_not, up_eq, up_ne, or_self, or_true, true_or, or_false, false_or, and_true, true_and, and_self, not_true_eq_false, not_false_eq_true, Bool.false_eq_true]
      · rw [← e4, ggR_waits_3]
        simp -implicitDefEqProofs (disch := (first | omega | assumption | exact am_isS_3 | exact am_isS_25 | exact am_isX_356 | exact am_isX_359)) only [ggR_waits_0, ggR_waits_1, ggR_waits_2, ggR_waits_4, ggR_waits_5, ggR_waits_6, ggR_waits_7, ggR_waits_8, ggR_waits_9, ccR_waits_0_2, ccR_waits_0_1, ccR_waits_2_1, ccR_waits_5_1, ccR_waits_8_1, ccR_waits_9_1, rR_isOpened, ew, e2, am_kI_x, am_kV_x, am_kI_i, am_nI_i, am_kV_i, am_nV_i, ↓reduceIte, eq_self, if_true, if_false, c_in, c_tn, pn_add, pn_mul, pn_subc, pn_addm, c_le_t, c_le_f, c_lt_t, c_lt_f, c_eq_f, c_eqm, bi_z, bi_1, bi_b, bi_T, bi_F, ite_not, up_eq, up_ne, or_self, or_true, true_or, or_false, false_or, and_true, true_and, and_self, not_true_eq_false, not_false_eq_true, Bool.false_eq_true]
    · have h1 : w = 1 := by omega
      subst h1
      refine ⟨(Int32.ofNat i), hC, hR1, L1.2.2.2.2.of (fun p q1 q2 => (f1.2 p (by omega) (by omega) (by omega)).symm) rfl (fun _ _ _ => rfl), frC.rf, f2, ?_, ?_⟩
      · rw [ggF_waits_1]
        simp -implicitDefEqProofs (disch := (first | omega | assumption | exact am_isS_3 | exact am_isS_25 | exact am_isX_356 | exact am_isX_359)) only [ggF_waits_0, ggF_waits_2, ggF_waits_3, ggF_waits_4, ggF_waits_5, ccF_waits_0_2, ccF_waits_0_1, ccF_waits_4_1, r12, ew, am_kI_x, am_kV_x, am_kI_i, am_nI_i, am_kV_i, am_nV_i, ↓reduceIte, eq_self, if_true, if_false, c_in, c_tn, pn_add, pn_mul, pn_subc, pn_addm, c_le_t, c_le_f, c_lt_t, c_lt_f, c_eq_f, c_eqm, bi_z, bi_1, bi_b, bi_T, bi_F, ite_not, up_eq, up_ne, or_self, or_true, true_or, or_false, false_or, and_true, true_and, and_self, not_true_eq_false, not_false_eq_true, Bool.false_eq_true]
      · have e9 : am_go (am_cl (D - 3 + 3)) qR_waits 3 [.ref 373, .int (Int32.ofNat c), .int (Int32.ofNat i), .int (Int32.ofNat (i + 1))] [] hR1 = some (.inl (some ((Int32.ofNat i))), given hR1) := by
          rw [ggR_waits_3]
          by_cases hq : i + 1 = 101
          · simp -implicitDefEqProofs (disch := (first | omega | assumption | exact am_isS_3 | exact am_isS_25 | exact am_isX_356 | exact am_isX_359)) only [ggR_waits_0, ggR_waits_1, ggR_waits_2, ggR_waits_4, ggR_waits_5, ggR_waits_6, ggR_waits_7, ggR_waits_8, ggR_waits_9, ccR_waits_0_2, ccR_waits_0_1, ccR_waits_2_1, ccR_waits_5_1, ccR_waits_8_1, ccR_waits_9_1, rR_bb, am_kI_x, am_kV_x, am_kI_i, am_nI_i, am_kV_i, am_nV_i, ↓reduceIte, eq_self, if_true, if_false, c_in, c_tn, pn_add, pn_mul, pn_subc, pn_addm, c_le_t, c_le_f, c_lt_t, c_lt_f, c_eq_f, c_eqm, bi_z, bi_1, bi_b, bi_T, bi_F, ite_not, up_eq, up_ne, or_self, or_true, true_or, or_false, false_or, and_true, true_and, and_self, not_true_eq_false, not_false_eq_true, Bool.false_eq_true]
          · simp -implicitDefEqProofs (disch := (first | omega | assumption | exact am_isS_3 | exact am_isS_25 | exact am_isX_356 | exact am_isX_359)) only [ggR_waits_0, ggR_waits_1, ggR_waits_2, ggR_waits_4, ggR_waits_5, ggR_waits_6, ggR_waits_7, ggR_waits_8, ggR_waits_9, ccR_waits_0_2, ccR_waits_0_1, ccR_waits_2_1, ccR_waits_5_1, ccR_waits_8_1, ccR_waits_9_1, rR_bb, am_kI_x, am_kV_x, am_kI_i, am_nI_i, am_kV_i, am_nV_i, ↓reduceIte, eq_self, if_true, if_false, c_in, c_tn, pn_add, pn_mul, pn_subc, pn_addm, c_le_t, c_le_f, c_lt_t, c_lt_f, c_eq_f, c_eqm, bi_z, bi_1, bi_b, bi_T, bi_F, ite_not, up_eq, up_ne, or_self, or_true, true_or, or_false, false_or, and_true, true_and, and_self, not_true_eq_false, not_false_eq_true, Bool.false_eq_true]
        rw [← e9, ggR_waits_3]
        simp -implicitDefEqProofs (disch := (first | omega | assumption | exact am_isS_3 | exact am_isS_25 | exact am_isX_356 | exact am_isX_359)) only [ggR_waits_0, ggR_waits_1, ggR_waits_2, ggR_waits_4, ggR_waits_5, ggR_waits_6, ggR_waits_7, ggR_waits_8, ggR_waits_9, ccR_waits_0_2, ccR_waits_0_1, ccR_waits_2_1, ccR_waits_5_1, ccR_waits_8_1, ccR_waits_9_1, rR_isOpened, ew, e2, am_kI_x, am_kV_x, am_kI_i, am_nI_i, am_kV_i, am_nV_i, ↓reduceIte, eq_self, if_true, if_false, c_in, c_tn, pn_add, pn_mul, pn_subc, pn_addm, c_le_t, c_le_f, c_lt_t, c_lt_f, c_eq_f, c_eqm, bi_z, bi_1, bi_b, bi_T, bi_F, ite_not, up_eq, up_ne, or_self, or_true, true_or, or_false, false_or, and_true, true_and, and_self, not_true_eq_false, not_false_eq_true, Bool.false_eq_true]
theorem T_waits (x : Int32) : Two qF_waits [.ref 0, .int x] qR_waits [.ref 373, .int x] (am_ctt 18) := by
  intro d hC hR J
  have J0 := J.thr (Int32.ofNat 0)
  obtain ⟨⟨N, G, L⟩, -⟩ := id J0
  have hN := L.1.1
  have z3 : hR.2 374 0 = (Int32.ofNat N) := by have := L.1.2.2.1; rw [up_o (by omega)] at this; exact this
  have z4 := L.1.2.2.2.1
  rcases ch_cases hN x with ⟨c, hc, rfl⟩ | ⟨b1, b2⟩
  · obtain ⟨hC1, a1, a2, a3, a4⟩ := copy25 (hC := hC) (d + 117)
    have L1 := (a4 _ N G L).row (hR' := lent (am_up hR 373 0 (Int32.ofNat 0))) lent_374
    obtain ⟨v, hC2, hR2, L2, f1, f2, e1, e2⟩ := waits_l (c := c) hc (D := d + 119) (by omega) 101 0 G hC1 (lent (am_up hR 373 0 (Int32.ofNat 0))) (by omega) L1
    have J3 : J2 hC2 (given hR2) := ahead_end J0 (fun p q1 q2 q3 => by rw [f1.2 p (by omega) q2 q3, a3 p q1]) f2.2 L2
    have q3 : hR2.2 373 = (am_up hR 373 0 (Int32.ofNat 0)).2 373 := (f2.2 373 (by omega) (by omega)).trans (cw_ne (by omega))
    refine ⟨hC2, given hR2, J3, f2.1, Or.inl ⟨v, f1.1.trans a2, ?_, ?_, ?_⟩⟩
    · unfold given
      rw [cw_ne (by omega), q3]; exact up_eq rfl rfl
    · simp -implicitDefEqProofs (disch := (first | omega | assumption | exact am_isS_3 | exact am_isS_25 | exact am_isX_356 | exact am_isX_359)) only [uF_waits, ggF_waits_0, ggF_waits_2, ggF_waits_3, ggF_waits_4, ggF_waits_5, ccF_waits_0_2, ccF_waits_0_1, ccF_waits_4_1, xF_needChild hN z4 hc, a1, am_kI_x, am_kV_x, am_kI_i, am_nI_i, am_kV_i, am_nV_i, ↓reduceIte, eq_self, if_true, if_false, c_in, c_tn, pn_add, pn_mul, pn_subc, pn_addm, c_le_t, c_le_f, c_lt_t, c_lt_f, c_eq_f, c_eqm, bi_z, bi_1, bi_b, bi_T, bi_F, ite_not, up_eq, up_ne, or_self, or_true, true_or, or_false, false_or, and_true, true_and, and_self, not_true_eq_false, not_false_eq_true, Bool.false_eq_true]
      exact e1
    · simp -implicitDefEqProofs (disch := (first | omega | assumption | exact am_isS_3 | exact am_isS_25 | exact am_isX_356 | exact am_isX_359)) only [uR_waits, ggR_waits_0, ggR_waits_1, ggR_waits_2, ggR_waits_4, ggR_waits_5, ggR_waits_6, ggR_waits_7, ggR_waits_8, ggR_waits_9, ccR_waits_0_2, ccR_waits_0_1, ccR_waits_2_1, ccR_waits_5_1, ccR_waits_8_1, ccR_waits_9_1, rR_noChild, rR_throwsIf_f, up_o, z3, rR_ka, am_kI_x, am_kV_x, am_kI_i, am_nI_i, am_kV_i, am_nV_i, ↓reduceIte, eq_self, if_true, if_false, c_in, c_tn, pn_add, pn_mul, pn_subc, pn_addm, c_le_t, c_le_f, c_lt_t, c_lt_f, c_eq_f, c_eqm, bi_z, bi_1, bi_b, bi_T, bi_F, ite_not, up_eq, up_ne, or_self, or_true, true_or, or_false, false_or, and_true, true_and, and_self, not_true_eq_false, not_false_eq_true, Bool.false_eq_true]
      exact e2
  · refine ⟨am_th hC, am_up (am_up hR 373 0 (Int32.ofNat 0)) 373 0 (Int32.ofNat 1), (J0.thr (Int32.ofNat 1)).th, rfl, Or.inr ⟨3, 1, (Int32.ofNat 0), rfl, by decide, up_eq rfl rfl, ?_, ?_⟩⟩
    · simp -implicitDefEqProofs (disch := (first | omega | assumption | exact am_isS_3 | exact am_isS_25 | exact am_isX_356 | exact am_isX_359)) only [uF_waits, ggF_waits_0, ggF_waits_2, ggF_waits_3, ggF_waits_4, ggF_waits_5, ccF_waits_0_2, ccF_waits_0_1, ccF_waits_4_1, xF_needChild_x z4 b2, am_kI_x, am_kV_x, am_kI_i, am_nI_i, am_kV_i, am_nV_i, ↓reduceIte, eq_self, if_true, if_false, c_in, c_tn, pn_add, pn_mul, pn_subc, pn_addm, c_le_t, c_le_f, c_lt_t, c_lt_f, c_eq_f, c_eqm, bi_z, bi_1, bi_b, bi_T, bi_F, ite_not, up_eq, up_ne, or_self, or_true, true_or, or_false, false_or, and_true, true_and, and_self, not_true_eq_false, not_false_eq_true, Bool.false_eq_true]
    · simp -implicitDefEqProofs (disch := (first | omega | assumption | exact am_isS_3 | exact am_isS_25 | exact am_isX_356 | exact am_isX_359)) only [uR_waits, ggR_waits_0, ggR_waits_1, ggR_waits_2, ggR_waits_4, ggR_waits_5, ggR_waits_6, ggR_waits_7, ggR_waits_8, ggR_waits_9, ccR_waits_0_2, ccR_waits_0_1, ccR_waits_2_1, ccR_waits_5_1, ccR_waits_8_1, ccR_waits_9_1, rR_noChild, rR_throwsIf_t, b1, k_373, up_o, z3, am_kI_x, am_kV_x, am_kI_i, am_nI_i, am_kV_i, am_nV_i, ↓reduceIte, eq_self, if_true, if_false, c_in, c_tn, pn_add, pn_mul, pn_subc, pn_addm, c_le_t, c_le_f, c_lt_t, c_lt_f, c_eq_f, c_eqm, bi_z, bi_1, bi_b, bi_T, bi_F, ite_not, up_eq, up_ne, or_self, or_true, true_or, or_false, false_or, and_true, true_and, and_self, not_true_eq_false, not_false_eq_true, Bool.false_eq_true]
