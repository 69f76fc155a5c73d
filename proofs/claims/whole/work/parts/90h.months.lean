/-! months in a row, both sides (mk90h.py) -/
theorem pn_addc (a b : Nat) : Int32.ofNat (a + b) = Int32.ofNat a + Int32.ofNat b := (pn_add a b).symm
theorem months_l {N n : Nat} (hn : n ≤ 1000) {D : Nat} (hD : 20 ≤ D) (s : Int32) : ∀ (k i x G : Nat) (hC hR : am_H), i + k = n → x ≤ 8 * i → Lk hC hR 3 N G → ∃ g hC' hR', x + g ≤ 8 * n ∧ Lk hC' hR' 3 N (G + g) ∧ frC 3 hC hC' ∧ frR hR hR' ∧ am_go (am_cl D) qF_months 4 [.ref 0, .int (Int32.ofNat n), .int (Int32.ofNat x), .int (Int32.ofNat i)] [] hC = some (.inl (some ((Int32.ofNat (x + g)))), hC') ∧ am_go (am_cl D) qR_goesOn 1 [.ref 373, .int (Int32.ofNat n), .int (Int32.ofNat 0), .int (Int32.ofNat x), .int (Int32.ofNat i)] [] hR = some (.inl (some ((Int32.ofNat (x + g)))), hR') := by
  intro k
  induction k with
  | zero =>
    intro i x G hC hR hi hx L
    have hi : i = n := by omega
    subst hi
    refine ⟨0, hC, hR, by omega, L, frC.rf, frR.rf, ?_, ?_⟩
    · rw [ggF_months_4]
      simp -implicitDefEqProofs (disch := (first | omega | assumption | exact am_isS_3 | exact am_isS_25 | exact am_isX_356 | exact am_isX_359)) only [ggF_months_0, ggF_months_1, ggF_months_2, ggF_months_3, ggF_months_5, ggF_months_6, ccF_months_3_1, ccF_months_5_1, Nat.add_zero x, am_kI_x, am_kV_x, am_kI_i, am_nI_i, am_kV_i, am_nV_i, ↓reduceIte, eq_self, if_true, if_false, c_in, c_tn, pn_add, pn_mul, pn_subc, pn_addm, c_le_t, c_le_f, c_lt_t, c_lt_f, c_eq_f, c_eqm, bi_z, bi_1, bi_b, bi_T, bi_F, ite_not, up_eq, up_ne, or_self, or_true, true_or, or_false, false_or, and_true, true_and, and_self, not_true_eq_false, not_false_eq_true, Bool.false_eq_true]
    · rw [ggR_goesOn_1]
      simp -implicitDefEqProofs (disch := (first | omega | assumption | exact am_isS_3 | exact am_isS_25 | exact am_isX_356 | exact am_isX_359)) only [ggR_goesOn_0, ggR_goesOn_2, ggR_goesOn_3, ccR_goesOn_2_1, Nat.add_zero x, am_kI_x, am_kV_x, am_kI_i, am_nI_i, am_kV_i, am_nV_i, ↓reduceIte, eq_self, if_true, if_false, c_in, c_tn, pn_add, pn_mul, pn_subc, pn_addm, c_le_t, c_le_f, c_lt_t, c_lt_f, c_eq_f, c_eqm, bi_z, bi_1, bi_b, bi_T, bi_F, ite_not, up_eq, up_ne, or_self, or_true, true_or, or_false, false_or, and_true, true_and, and_self, not_true_eq_false, not_false_eq_true, Bool.false_eq_true]
  | succ k ih =>
    intro i x G hC hR hi hx L
    obtain ⟨g, hC1, hR1, g1, L1, f1, f2, -, e1, e2⟩ := pass_draw am_isS_3 (by omega) L 0
    obtain ⟨g2, hC2, hR2, g3, L2, f3, f4, e3, e4⟩ := ih (i + 1) (x + g) (G + g) hC1 hR1 (by omega) (by omega) L1
    have e1 := am_cl_le (d' := D) (by omega) e1
    have e2 := am_cl_le (d' := D) (by omega) e2
    refine ⟨g + g2, hC2, hR2, by omega, by rw [← Nat.add_assoc]; exact L2, f1.tr f3, f2.tr f4, ?_, ?_⟩
    · rw [ggF_months_4]
      simp -implicitDefEqProofs (disch := (first | omega | assumption | exact am_isS_3 | exact am_isS_25 | exact am_isX_356 | exact am_isX_359)) only [ggF_months_0, ggF_months_1, ggF_months_2, ggF_months_3, ggF_months_5, ggF_months_6, ccF_months_3_1, ccF_months_5_1, e1, am_kI_x, am_kV_x, am_kI_i, am_nI_i, am_kV_i, am_nV_i, ↓reduceIte, eq_self, if_true, if_false, c_in, c_tn, pn_add, pn_mul, pn_subc, pn_addm, c_le_t, c_le_f, c_lt_t, c_lt_f, c_eq_f, c_eqm, bi_z, bi_1, bi_b, bi_T, bi_F, ite_not, up_eq, up_ne, or_self, or_true, true_or, or_false, false_or, and_true, true_and, and_self, not_true_eq_false, not_false_eq_true, Bool.false_eq_true]
      rw [← Nat.add_assoc]
      exact e3
    · rw [ggR_goesOn_1]
      simp -implicitDefEqProofs (disch := (first | omega | assumption | exact am_isS_3 | exact am_isS_25 | exact am_isX_356 | exact am_isX_359)) only [ggR_goesOn_0, ggR_goesOn_2, ggR_goesOn_3, ccR_goesOn_2_1, e2, am_kI_x, am_kV_x, am_kI_i, am_nI_i, am_kV_i, am_nV_i, ↓reduceIte, eq_self, if_true, if_false, c_in, c_tn, pn_add, pn_mul, pn_subc, pn_addm, c_le_t, c_le_f, c_lt_t, c_lt_f, c_eq_f, c_eqm, bi_z, bi_1, bi_b, bi_T, bi_F, ite_not, up_eq, up_ne, or_self, or_true, true_or, or_false, false_or, and_true, true_and, and_self, not_true_eq_false, not_false_eq_true, Bool.false_eq_true]
      rw [← Nat.add_assoc]
      exact e4
theorem ahead_l {N n : Nat} (hn : n ≤ 1000) {D : Nat} (hD : 20 ≤ D) (s : Int32) : ∀ (k i x G : Nat) (hC hR : am_H), i + k = n → x ≤ 8 * i → Lk hC hR 25 N G → ∃ g hC' hR', x + g ≤ 8 * n ∧ Lk hC' hR' 25 N (G + g) ∧ frC 25 hC hC' ∧ frR hR hR' ∧ am_go (am_cl D) qF_goAhead 1 [.ref 0, .int (Int32.ofNat n), .int (Int32.ofNat i)] [] hC = some (.inl none, hC') ∧ am_go (am_cl D) qR_goesOn 1 [.ref 373, .int (Int32.ofNat n), .int (Int32.ofNat 1), .int (Int32.ofNat x), .int (Int32.ofNat i)] [] hR = some (.inl (some ((Int32.ofNat (x + g)))), hR') := by
  intro k
  induction k with
  | zero =>
    intro i x G hC hR hi hx L
    have hi : i = n := by omega
    subst hi
    refine ⟨0, hC, hR, by omega, L, frC.rf, frR.rf, ?_, ?_⟩
    · rw [ggF_goAhead_1]
      simp -implicitDefEqProofs (disch := (first | omega | assumption | exact am_isS_3 | exact am_isS_25 | exact am_isX_356 | exact am_isX_359)) only [ggF_goAhead_0, ggF_goAhead_2, ggF_goAhead_3, ccF_goAhead_0_1, ccF_goAhead_2_1, am_kI_x, am_kV_x, am_kI_i, am_nI_i, am_kV_i, am_nV_i, ↓reduceIte, eq_self, if_true, if_false, c_in, c_tn, pn_add, pn_mul, pn_subc, pn_addm, c_le_t, c_le_f, c_lt_t, c_lt_f, c_eq_f, c_eqm, bi_z, bi_1, bi_b, bi_T, bi_F, ite_not, up_eq, up_ne, or_self, or_true, true_or, or_false, false_or, and_true, true_and, and_self, not_true_eq_false, not_false_eq_true, Bool.false_eq_true]
    · rw [ggR_goesOn_1]
      simp -implicitDefEqProofs (disch := (first | omega | assumption | exact am_isS_3 | exact am_isS_25 | exact am_isX_356 | exact am_isX_359)) only [ggR_goesOn_0, ggR_goesOn_2, ggR_goesOn_3, ccR_goesOn_2_1, Nat.add_zero x, am_kI_x, am_kV_x, am_kI_i, am_nI_i, am_kV_i, am_nV_i, ↓reduceIte, eq_self, if_true, if_false, c_in, c_tn, pn_add, pn_mul, pn_subc, pn_addm, c_le_t, c_le_f, c_lt_t, c_lt_f, c_eq_f, c_eqm, bi_z, bi_1, bi_b, bi_T, bi_F, ite_not, up_eq, up_ne, or_self, or_true, true_or, or_false, false_or, and_true, true_and, and_self, not_true_eq_false, not_false_eq_true, Bool.false_eq_true]
  | succ k ih =>
    intro i x G hC hR hi hx L
    obtain ⟨g, hC1, hR1, g1, L1, f1, f2, -, e1, e2⟩ := pass_calm am_isS_25 (by omega) L 0
    obtain ⟨g2, hC2, hR2, g3, L2, f3, f4, e3, e4⟩ := ih (i + 1) (x + g) (G + g) hC1 hR1 (by omega) (by omega) L1
    have e1 := am_cl_le (d' := D) (by omega) e1
    have e2 := am_cl_le (d' := D) (by omega) e2
    refine ⟨g + g2, hC2, hR2, by omega, by rw [← Nat.add_assoc]; exact L2, f1.tr f3, f2.tr f4, ?_, ?_⟩
    · rw [ggF_goAhead_1]
      simp -implicitDefEqProofs (disch := (first | omega | assumption | exact am_isS_3 | exact am_isS_25 | exact am_isX_356 | exact am_isX_359)) only [ggF_goAhead_0, ggF_goAhead_2, ggF_goAhead_3, ccF_goAhead_0_1, ccF_goAhead_2_1, e1, am_kI_x, am_kV_x, am_kI_i, am_nI_i, am_kV_i, am_nV_i, ↓reduceIte, eq_self, if_true, if_false, c_in, c_tn, pn_add, pn_mul, pn_subc, pn_addm, c_le_t, c_le_f, c_lt_t, c_lt_f, c_eq_f, c_eqm, bi_z, bi_1, bi_b, bi_T, bi_F, ite_not, up_eq, up_ne, or_self, or_true, true_or, or_false, false_or, and_true, true_and, and_self, not_true_eq_false, not_false_eq_true, Bool.false_eq_true]
      exact e3
    · rw [ggR_goesOn_1]
      simp -implicitDefEqProofs (disch := (first | omega | assumption | exact am_isS_3 | exact am_isS_25 | exact am_isX_356 | exact am_isX_359)) only [ggR_goesOn_0, ggR_goesOn_2, ggR_goesOn_3, ccR_goesOn_2_1, e2, am_kI_x, am_kV_x, am_kI_i, am_nI_i, am_kV_i, am_nV_i, ↓reduceIte, eq_self, if_true, if_false, c_in, c_tn, pn_add, pn_mul, pn_subc, pn_addm, c_le_t, c_le_f, c_lt_t, c_lt_f, c_eq_f, c_eqm, bi_z, bi_1, bi_b, bi_T, bi_F, ite_not, up_eq, up_ne, or_self, or_true, true_or, or_false, false_or, and_true, true_and, and_self, not_true_eq_false, not_false_eq_true, Bool.false_eq_true]
      rw [← Nat.add_assoc]
      exact e4
theorem try_l {N n : Nat} (hn : n ≤ 1000) {D : Nat} (hD : 20 ≤ D) (s : Int32) : ∀ (k i x G : Nat) (hC hR : am_H), i + k = n → x ≤ 8 * i → Lk hC hR 25 N G → ∃ g hC' hR', x + g ≤ 8 * n ∧ Lk hC' hR' 25 N (G + g) ∧ frC 25 hC hC' ∧ frR hR hR' ∧ am_go (am_cl D) qF_tryMonths 1 [.ref 0, .int (Int32.ofNat n), .int s, .int (Int32.ofNat i)] [] hC = some (.inl none, hC') ∧ am_go (am_cl D) qR_goesOn 1 [.ref 373, .int (Int32.ofNat n), .int (Int32.ofNat 0), .int (Int32.ofNat x), .int (Int32.ofNat i)] [] hR = some (.inl (some ((Int32.ofNat (x + g)))), hR') := by
  intro k
  induction k with
  | zero =>
    intro i x G hC hR hi hx L
    have hi : i = n := by omega
    subst hi
    refine ⟨0, hC, hR, by omega, L, frC.rf, frR.rf, ?_, ?_⟩
    · rw [ggF_tryMonths_1]
      simp -implicitDefEqProofs (disch := (first | omega | assumption | exact am_isS_3 | exact am_isS_25 | exact am_isX_356 | exact am_isX_359)) only [ggF_tryMonths_0, ggF_tryMonths_2, ggF_tryMonths_3, ccF_tryMonths_0_1, ccF_tryMonths_2_1, am_kI_x, am_kV_x, am_kI_i, am_nI_i, am_kV_i, am_nV_i, ↓reduceIte, eq_self, if_true, if_false, c_in, c_tn, pn_add, pn_mul, pn_subc, pn_addm, c_le_t, c_le_f, c_lt_t, c_lt_f, c_eq_f, c_eqm, bi_z, bi_1, bi_b, bi_T, bi_F, ite_not, up_eq, up_ne, or_self, or_true, true_or, or_false, false_or, and_true, true_and, and_self, not_true_eq_false, not_false_eq_true, Bool.false_eq_true]
    · rw [ggR_goesOn_1]
      simp -implicitDefEqProofs (disch := (first | omega | assumption | exact am_isS_3 | exact am_isS_25 | exact am_isX_356 | exact am_isX_359)) only [ggR_goesOn_0, ggR_goesOn_2, ggR_goesOn_3, ccR_goesOn_2_1, Nat.add_zero x, am_kI_x, am_kV_x, am_kI_i, am_nI_i, am_kV_i, am_nV_i, ↓reduceIte, eq_self, if_true, if_false, c_in, c_tn, pn_add, pn_mul, pn_subc, pn_addm, c_le_t, c_le_f, c_lt_t, c_lt_f, c_eq_f, c_eqm, bi_z, bi_1, bi_b, bi_T, bi_F, ite_not, up_eq, up_ne, or_self, or_true, true_or, or_false, false_or, and_true, true_and, and_self, not_true_eq_false, not_false_eq_true, Bool.false_eq_true]
  | succ k ih =>
    intro i x G hC hR hi hx L
    obtain ⟨g, hC1, hR1, g1, L1, f1, f2, -, e1, e2⟩ := pass_draw am_isS_25 (by omega) L 0
    obtain ⟨g2, hC2, hR2, g3, L2, f3, f4, e3, e4⟩ := ih (i + 1) (x + g) (G + g) hC1 hR1 (by omega) (by omega) L1
    have e1 := am_cl_le (d' := D) (by omega) e1
    have e2 := am_cl_le (d' := D) (by omega) e2
    refine ⟨g + g2, hC2, hR2, by omega, by rw [← Nat.add_assoc]; exact L2, f1.tr f3, f2.tr f4, ?_, ?_⟩
    · rw [ggF_tryMonths_1]
      simp -implicitDefEqProofs (disch := (first | omega | assumption | exact am_isS_3 | exact am_isS_25 | exact am_isX_356 | exact am_isX_359)) only [ggF_tryMonths_0, ggF_tryMonths_2, ggF_tryMonths_3, ccF_tryMonths_0_1, ccF_tryMonths_2_1, e1, am_kI_x, am_kV_x, am_kI_i, am_nI_i, am_kV_i, am_nV_i, ↓reduceIte, eq_self, if_true, if_false, c_in, c_tn, pn_add, pn_mul, pn_subc, pn_addm, c_le_t, c_le_f, c_lt_t, c_lt_f, c_eq_f, c_eqm, bi_z, bi_1, bi_b, bi_T, bi_F, ite_not, up_eq, up_ne, or_self, or_true, true_or, or_false, false_or, and_true, true_and, and_self, not_true_eq_false, not_false_eq_true, Bool.false_eq_true]
      exact e3
    · rw [ggR_goesOn_1]
      simp -implicitDefEqProofs (disch := (first | omega | assumption | exact am_isS_3 | exact am_isS_25 | exact am_isX_356 | exact am_isX_359)) only [ggR_goesOn_0, ggR_goesOn_2, ggR_goesOn_3, ccR_goesOn_2_1, e2, am_kI_x, am_kV_x, am_kI_i, am_nI_i, am_kV_i, am_nV_i, ↓reduceIte, eq_self, if_true, if_false, c_in, c_tn, pn_add, pn_mul, pn_subc, pn_addm, c_le_t, c_le_f, c_lt_t, c_lt_f, c_eq_f, c_eqm, bi_z, bi_1, bi_b, bi_T, bi_F, ite_not, up_eq, up_ne, or_self, or_true, true_or, or_false, false_or, and_true, true_and, and_self, not_true_eq_false, not_false_eq_true, Bool.false_eq_true]
      rw [← Nat.add_assoc]
      exact e4
theorem T_months (x : Int32) : Two qF_months [.ref 0, .int x] qR_months [.ref 373, .int x] (am_ctt 4) := by
  intro d hC hR J
  have J0 := J.thr (Int32.ofNat 0)
  have bad : ∀ e1 : ((Int32.ofNat 1) ≤ x ∧ x ≤ (Int32.ofNat 120)) = False, (x < (Int32.ofNat 1)) = True ∨ (x < (Int32.ofNat 1)) = False ∧ (x ≤ (Int32.ofNat 120)) = False → ∃ hC' hR', J2 hC' hR' ∧ hR'.1 = hR.1 ∧ ((∃ v, hC'.1 = hC.1 ∧ hR'.2 373 0 = (Int32.ofNat 0) ∧ am_cl (d + 120) qF_months [.ref 0, .int x] hC = some (.inl (some (v)), hC') ∧ am_cl (d + 120) qR_months [.ref 373, .int x] hR = some (.inl (some (v)), hR')) ∨ ∃ e t v, hC'.1 = hC.1 + 1 ∧ am_cf (am_ctt 4) e = some t ∧ hR'.2 373 0 = t ∧ am_cl (d + 120) qF_months [.ref 0, .int x] hC = some (.inr e, hC') ∧ am_cl (d + 120) qR_months [.ref 373, .int x] hR = some (.inl (some (v)), hR')) := fun e1 e2 => by
    refine ⟨am_th hC, am_up (am_up hR 373 0 (Int32.ofNat 0)) 373 0 (Int32.ofNat 1), (J0.thr (Int32.ofNat 1)).th, rfl, Or.inr ⟨1, 1, (Int32.ofNat 0), rfl, by decide, up_eq rfl rfl, ?_, ?_⟩⟩
    · rcases e2 with e2 | ⟨e2, e3⟩
      · simp -implicitDefEqProofs (disch := (first | omega | assumption | exact am_isS_3 | exact am_isS_25 | exact am_isX_356 | exact am_isX_359)) only [uF_months, ggF_months_0, ggF_months_1, ggF_months_2, ggF_months_3, ggF_months_5, ggF_months_6, ccF_months_3_1, ccF_months_5_1, e2, am_kI_x, am_kV_x, am_kI_i, am_nI_i, am_kV_i, am_nV_i, ↓reduceIte, eq_self, if_true, if_false, c_in, c_tn, pn_add, pn_mul, pn_subc, pn_addm, c_le_t, c_le_f, c_lt_t, c_lt_f, c_eq_f, c_eqm, bi_z, bi_1, bi_b, bi_T, bi_F, ite_not, up_eq, up_ne, or_self, or_true, true_or, or_false, false_or, and_true, true_and, and_self, not_true_eq_false, not_false_eq_true, Bool.false_eq_true]
      · simp -implicitDefEqProofs (disch := (first | omega | assumption | exact am_isS_3 | exact am_isS_25 | exact am_isX_356 | exact am_isX_359)) only [uF_months, ggF_months_0, ggF_months_1, ggF_months_2, ggF_months_3, ggF_months_5, ggF_months_6, ccF_months_3_1, ccF_months_5_1, e2, e3, am_kI_x, am_kV_x, am_kI_i, am_nI_i, am_kV_i, am_nV_i, ↓reduceIte, eq_self, if_true, if_false, c_in, c_tn, pn_add, pn_mul, pn_subc, pn_addm, c_le_t, c_le_f, c_lt_t, c_lt_f, c_eq_f, c_eqm, bi_z, bi_1, bi_b, bi_T, bi_F, ite_not, up_eq, up_ne, or_self, or_true, true_or, or_false, false_or, and_true, true_and, and_self, not_true_eq_false, not_false_eq_true, Bool.false_eq_true]
    · simp -implicitDefEqProofs (disch := (first | omega | assumption | exact am_isS_3 | exact am_isS_25 | exact am_isX_356 | exact am_isX_359)) only [uR_months, ggR_months_0, ggR_months_1, ggR_months_2, ggR_months_3, ggR_months_4, ggR_months_5, ccR_months_0_1, ccR_months_3_1, ccR_months_5_2, ccR_months_5_1, rR_in, rR_throwsIf_t, e1, k_373, am_kI_x, am_kV_x, am_kI_i, am_nI_i, am_kV_i, am_nV_i, ↓reduceIte, eq_self, if_true, if_false, c_in, c_tn, pn_add, pn_mul, pn_subc, pn_addm, c_le_t, c_le_f, c_lt_t, c_lt_f, c_eq_f, c_eqm, bi_z, bi_1, bi_b, bi_T, bi_F, ite_not, up_eq, up_ne, or_self, or_true, true_or, or_false, false_or, and_true, true_and, and_self, not_true_eq_false, not_false_eq_true, Bool.false_eq_true]
  rcases rng_cases 120 (by omega) x with ⟨n, hn, rfl⟩ | ⟨b1, b2⟩
  · by_cases h0 : n = 0
    · subst h0
      exact bad (by simp) (Or.inl (by decide))
    · obtain ⟨hC1, hR1, J1, a1, a2, eC, eR, fC, fR, f7⟩ := remember_both J0 (d + 116) (d + 118)
      obtain ⟨⟨N, G, L⟩, -⟩ := id J1
      obtain ⟨g, hC', hR', g1, L1, f1, f2, e1, e2⟩ := months_l (n := n) (by omega) (D := d + 118) (by omega) (Int32.ofNat 0) n 0 0 G hC1 hR1 (by omega) (by omega) L
      have e1 := am_go_le (d' := d + 119) (by omega) e1
      rw [Nat.zero_add] at e1 e2
      have eg : am_cl (d + 119) qR_goesOn [.ref 373, .int (Int32.ofNat n), .int (Int32.ofNat 0)] hR1 = some (.inl (some ((Int32.ofNat g))), hR') := by
        rw [uR_goesOn, ggR_goesOn_0]; exact e2
      refine ⟨hC', hR', J1.lk L1 (fun p h1 h2 h3 => f1.2 p (by omega) h2 h3) f2.2, f2.1.trans a2, Or.inl ⟨(Int32.ofNat g), f1.1.trans a1, ?_, ?_, ?_⟩⟩
      · rw [f2.2 373 (by omega) (by omega), f7 0 (by omega)]; exact up_eq rfl rfl
      · simp -implicitDefEqProofs (disch := (first | omega | assumption | exact am_isS_3 | exact am_isS_25 | exact am_isX_356 | exact am_isX_359)) only [uF_months, ggF_months_0, ggF_months_1, ggF_months_2, ggF_months_3, ggF_months_5, ggF_months_6, ccF_months_3_1, ccF_months_5_1, eC, am_kI_x, am_kV_x, am_kI_i, am_nI_i, am_kV_i, am_nV_i, ↓reduceIte, eq_self, if_true, if_false, c_in, c_tn, pn_add, pn_mul, pn_subc, pn_addm, c_le_t, c_le_f, c_lt_t, c_lt_f, c_eq_f, c_eqm, bi_z, bi_1, bi_b, bi_T, bi_F, ite_not, up_eq, up_ne, or_self, or_true, true_or, or_false, false_or, and_true, true_and, and_self, not_true_eq_false, not_false_eq_true, Bool.false_eq_true]
        exact e1
      · simp -implicitDefEqProofs (disch := (first | omega | assumption | exact am_isS_3 | exact am_isS_25 | exact am_isX_356 | exact am_isX_359)) only [uR_months, ggR_months_0, ggR_months_1, ggR_months_2, ggR_months_3, ggR_months_4, ggR_months_5, ccR_months_0_1, ccR_months_3_1, ccR_months_5_2, ccR_months_5_1, rR_in, rR_throwsIf_f, k_373, eR, eg, am_kI_x, am_kV_x, am_kI_i, am_nI_i, am_kV_i, am_nV_i, ↓reduceIte, eq_self, if_true, if_false, c_in, c_tn, pn_add, pn_mul, pn_subc, pn_addm, c_le_t, c_le_f, c_lt_t, c_lt_f, c_eq_f, c_eqm, bi_z, bi_1, bi_b, bi_T, bi_F, ite_not, up_eq, up_ne, or_self, or_true, true_or, or_false, false_or, and_true, true_and, and_self, not_true_eq_false, not_false_eq_true, Bool.false_eq_true]
  · refine bad ?_ ?_
    · apply eq_false
      intro q
      rw [← b1]
      refine ⟨?_, q.2⟩
      have := q.1
      rw [Int32.le_iff_toInt_le] at this ⊢
      have e0 : ((Int32.ofNat 0) : Int32).toInt = 0 := by decide
      have e1 : ((Int32.ofNat 1) : Int32).toInt = 1 := by decide
      omega
    · rcases b2 with b2 | ⟨b2, b3, b4⟩
      · left
        apply eq_true
        have := of_eq_true b2
        rw [Int32.lt_iff_toInt_lt] at this ⊢
        have e0 : ((Int32.ofNat 0) : Int32).toInt = 0 := by decide
        have e1 : ((Int32.ofNat 1) : Int32).toInt = 1 := by decide
        omega
      · by_cases h1 : x < (Int32.ofNat 1)
        · exact Or.inl (eq_true h1)
        · exact Or.inr ⟨eq_false h1, b3⟩
