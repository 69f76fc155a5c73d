/-! feels, odds -/
theorem xF_takeFeels {h : am_H} {n : Nat} (hn : n ≤ 400) (e : h.2 1 1 = (Int32.ofNat n)) {B : Nat → Nat} (hB : ∀ i, i < 400 → B i < 256 ∧ h.2 2 i = (Int32.ofNat (B i))) (d : Nat) : am_cl (d + 3) qF_takeFeels [.ref 0] h = some (.inl (some (bi (rowsOK B n 2 10 = true))), usedC h (if rowsOK B n 2 10 = true then n / 2 else 0)) := by
  have et := fun d => xT_takeRows hn e hB (x := 2) (y := 10) (by omega) (by omega) d
  unfold usedC
  simp -implicitDefEqProofs (disch := (first | omega | assumption | exact am_isS_3 | exact am_isS_25 | exact am_isX_356 | exact am_isX_359)) only [uF_takeFeels, ggF_takeFeels_0, ccF_takeFeels_0_1, et, am_kI_x, am_kV_x, am_kI_i, am_nI_i, am_kV_i, am_nV_i, ↓reduceIte, eq_self, if_true, if_false, c_in, c_tn, pn_add, pn_mul, pn_subc, pn_addm, c_le_t, c_le_f, c_lt_t, c_lt_f, c_eq_f, c_eqm, bi_z, bi_1, bi_b, bi_T, bi_F, ite_not, up_eq, up_ne, or_self, or_true, true_or, or_false, false_or, and_true, true_and, and_self, not_true_eq_false, not_false_eq_true, Bool.false_eq_true]
  rw [if_pos ((Classical.em (rowsOK B n 2 10 = true)).symm)]
theorem xF_needFeels {h : am_H} {n : Nat} (hn : n ≤ 400) (e : h.2 1 1 = (Int32.ofNat n)) {B : Nat → Nat} (hB : ∀ i, i < 400 → B i < 256 ∧ h.2 2 i = (Int32.ofNat (B i))) (ok : rowsOK B n 2 10 = true) (d : Nat) : am_cl (d + 4) qF_needFeels [.ref 0] h = some (.inl none, usedC h (n / 2)) := by
  have et := fun d => xF_takeFeels hn e hB d
  rw [bi_t ok, if_pos ok] at et
  simp -implicitDefEqProofs (disch := (first | omega | assumption | exact am_isS_3 | exact am_isS_25 | exact am_isX_356 | exact am_isX_359)) only [uF_needFeels, ggF_needFeels_0, ggF_needFeels_1, ggF_needFeels_2, ccF_needFeels_0_1, et, am_kI_x, am_kV_x, am_kI_i, am_nI_i, am_kV_i, am_nV_i, ↓reduceIte, eq_self, if_true, if_false, c_in, c_tn, pn_add, pn_mul, pn_subc, pn_addm, c_le_t, c_le_f, c_lt_t, c_lt_f, c_eq_f, c_eqm, bi_z, bi_1, bi_b, bi_T, bi_F, ite_not, up_eq, up_ne, or_self, or_true, true_or, or_false, false_or, and_true, true_and, and_self, not_true_eq_false, not_false_eq_true, Bool.false_eq_true]
theorem xF_needFeels_x {h : am_H} {n : Nat} (hn : n ≤ 400) (e : h.2 1 1 = (Int32.ofNat n)) {B : Nat → Nat} (hB : ∀ i, i < 400 → B i < 256 ∧ h.2 2 i = (Int32.ofNat (B i))) (ok : ¬ rowsOK B n 2 10 = true) (d : Nat) : am_cl (d + 4) qF_needFeels [.ref 0] h = some (.inr 1, am_th (usedC h 0)) := by
  have et := fun d => xF_takeFeels hn e hB d
  rw [bi_f ok, if_neg ok] at et
  simp -implicitDefEqProofs (disch := (first | omega | assumption | exact am_isS_3 | exact am_isS_25 | exact am_isX_356 | exact am_isX_359)) only [uF_needFeels, ggF_needFeels_0, ggF_needFeels_1, ggF_needFeels_2, ccF_needFeels_0_1, et, am_kI_x, am_kV_x, am_kI_i, am_nI_i, am_kV_i, am_nV_i, ↓reduceIte, eq_self, if_true, if_false, c_in, c_tn, pn_add, pn_mul, pn_subc, pn_addm, c_le_t, c_le_f, c_lt_t, c_lt_f, c_eq_f, c_eqm, bi_z, bi_1, bi_b, bi_T, bi_F, ite_not, up_eq, up_ne, or_self, or_true, true_or, or_false, false_or, and_true, true_and, and_self, not_true_eq_false, not_false_eq_true, Bool.false_eq_true]
theorem told_of {hC hR : am_H} {n : Nat} {B : Nat → Nat} (hB : bts hC hR B) (ok : rowsOK B n 2 10 = true) : told (usedC hC (n / 2)) (usedR hR n) B (n / 2) := by
  unfold rowsOK at ok
  rw [Bool.and_eq_true, decide_eq_true_eq, allN_iff] at ok
  obtain ⟨⟨o1, o2⟩, o3⟩ := ok
  refine ⟨by omega, usedC_2, by rw [usedR_11, show 2 * (n / 2) = n by omega], fun i hi => ?_, fun i hi => ?_⟩
  · rw [usedC_o (by omega), usedR_o (by omega)]; exact hB i hi
  · have := o3 i hi
    rw [Bool.and_eq_true, decide_eq_true_eq, decide_eq_true_eq] at this
    exact this
theorem fitT_w {W : Nat → Int32} {B : Nat → Nat} {n : Nat} {w : Nat → Nat} (hw : ∀ t, t < 9 → w t ≤ 9 ∧ wt W t = (Int32.ofNat (w t))) : ∀ t, t < 9 → fitT W B n t = true → w t ≠ 0 := fun t ht h q => by
  unfold fitT at h
  rw [Bool.and_eq_true, decide_eq_true_eq, (hw t ht).2, q] at h
  exact h.1 (by decide)
theorem T_feels (x : Int32) : Two qF_feels [.ref 0, .int x] qR_feels [.ref 373, .int x] (am_ctt 15) := by
  intro d hC hR J
  obtain ⟨⟨N, G, R, okt, okc, okk, RL⟩, T, -⟩ := id J
  obtain ⟨n, B, hn, e1, e2, hB⟩ := bts_of T
  have hBC : ∀ i, i < 400 → B i < 256 ∧ hC.2 2 i = (Int32.ofNat (B i)) := fun i hi => ⟨(hB i hi).1, (hB i hi).2.1⟩
  have e374 : (usedR hR n).2 374 = hR.2 374 := usedR_o (by omega)
  have ef := fun d => rR_isFelt (h := usedR hR n) hn usedR_11 (B := B) (fun i hi => ⟨(hB i hi).1, by rw [usedR_o (by omega)]; exact (hB i hi).2.2⟩) d
  have eu := fun d => rR_uses e2 d
  by_cases ok : rowsOK B n 2 10 = true
  · rw [bi_t ok] at ef
    have en := fun d => xF_needFeels hn e1 hBC ok d
    rcases rng_cases 2 (by omega) x with ⟨k, hk, rfl⟩ | ⟨b1, b2⟩
    · have tt := told_of hB ok
      have RC := R.used (m := n / 2)
      obtain ⟨w, hw⟩ := wt_nat okt
      obtain ⟨v, hv⟩ := wo_nat okt
      have hwR : ∀ t, t < 9 → w t ≤ 9 ∧ wt ((usedR hR n).2 374) t = (Int32.ofNat (w t)) := by rw [e374]; exact hw
      have hvR : ∀ t, t < 9 → v t ≤ 99 ∧ (usedR hR n).2 374 (7 + 4 * t + 3) = (Int32.ofNat (v t)) := by rw [e374]; exact hv
      have ffC := fun d => xE_fitting RC tt d
      have ffR := fun d => rR_fitting tt d
      rw [e374] at ffR
      have hp := fitT_w (B := B) (n := n / 2) hw
      have lk := fun d d' => likely_both (hR := usedR hR n) (by rw [e374]; exact RC) hwR (fitT (hR.2 374) B (n / 2)) hp d d'
      have exC := fun d => xE_expected RC hw hv (fitT (hR.2 374) B (n / 2)) d
      have exR := fun d => rR_expectOf hwR hvR (fitT (hR.2 374) B (n / 2)) d
      generalize fitT (hR.2 374) B (n / 2) = p at ffC ffR lk exC exR
      have J1 := J.used (n / 2) n
      rcases (show k = 0 ∨ k = 1 ∨ k = 2 by omega) with rfl | rfl | rfl
      · refine ⟨_, _, J1, rfl, Or.inl ⟨bset p 9, rfl, usedR_0, ?_, ?_⟩⟩
        · simp -implicitDefEqProofs (disch := (first | omega | assumption | exact am_isS_3 | exact am_isS_25 | exact am_isX_356 | exact am_isX_359)) only [uF_feels, ggF_feels_0, ggF_feels_1, ggF_feels_2, ggF_feels_3, w1_0, w1_1, w1_2, w1_3, ggF_feels_4, ggF_feels_5, ggF_feels_6, ccF_feels_0_1, ccF_feels_3_1, ccF_feels_5_1, ccF_feels_6_1, en, ffC, am_kI_x, am_kV_x, am_kI_i, am_nI_i, am_kV_i, am_nV_i, ↓reduceIte, eq_self, if_true, if_false, c_in, c_tn, pn_add, pn_mul, pn_subc, pn_addm, c_le_t, c_le_f, c_lt_t, c_lt_f, c_eq_f, c_eqm, bi_z, bi_1, bi_b, bi_T, bi_F, ite_not, up_eq, up_ne, or_self, or_true, true_or, or_false, false_or, and_true, true_and, and_self, not_true_eq_false, not_false_eq_true, Bool.false_eq_true]
        · simp -implicitDefEqProofs (disch := (first | omega | assumption | exact am_isS_3 | exact am_isS_25 | exact am_isX_356 | exact am_isX_359)) only [uR_feels, ggR_feels_0, ggR_feels_1, ggR_feels_2, ggR_feels_3, ggR_feels_4, ggR_feels_5, ggR_feels_6, ggR_feels_7, ggR_feels_8, ggR_feels_9, ggR_feels_10, ggR_feels_11, ggR_feels_12, ggR_feels_13, ggR_feels_14, ccR_feels_0_2, ccR_feels_0_1, ccR_feels_3_1, ccR_feels_4_1, ccR_feels_7_1, ccR_feels_9_1, ccR_feels_12_1, ccR_feels_13_1, eu, ef, rR_throwsIf_f, rR_in, k_373, ffR, am_kI_x, am_kV_x, am_kI_i, am_nI_i, am_kV_i, am_nV_i, ↓reduceIte, eq_self, if_true, if_false, c_in, c_tn, pn_add, pn_mul, pn_subc, pn_addm, c_le_t, c_le_f, c_lt_t, c_lt_f, c_eq_f, c_eqm, bi_z, bi_1, bi_b, bi_T, bi_F, ite_not, up_eq, up_ne, or_self, or_true, true_or, or_false, false_or, and_true, true_and, and_self, not_true_eq_false, not_false_eq_true, Bool.false_eq_true]
      · obtain ⟨u, lk1, lk2⟩ := lk (d + 117) (d + 115)
        refine ⟨_, _, J1, rfl, Or.inl ⟨u, rfl, usedR_0, ?_, ?_⟩⟩
        · simp -implicitDefEqProofs (disch := (first | omega | assumption | exact am_isS_3 | exact am_isS_25 | exact am_isX_356 | exact am_isX_359)) only [uF_feels, ggF_feels_0, ggF_feels_1, ggF_feels_2, ggF_feels_3, w1_0, w1_1, w1_2, w1_3, ggF_feels_4, ggF_feels_5, ggF_feels_6, ccF_feels_0_1, ccF_feels_3_1, ccF_feels_5_1, ccF_feels_6_1, en, ffC, lk1, am_kI_x, am_kV_x, am_kI_i, am_nI_i, am_kV_i, am_nV_i, ↓reduceIte, eq_self, if_true, if_false, c_in, c_tn, pn_add, pn_mul, pn_subc, pn_addm, c_le_t, c_le_f, c_lt_t, c_lt_f, c_eq_f, c_eqm, bi_z, bi_1, bi_b, bi_T, bi_F, ite_not, up_eq, up_ne, or_self, or_true, true_or, or_false, false_or, and_true, true_and, and_self, not_true_eq_false, not_false_eq_true, Bool.false_eq_true]
        · simp -implicitDefEqProofs (disch := (first | omega | assumption | exact am_isS_3 | exact am_isS_25 | exact am_isX_356 | exact am_isX_359)) only [uR_feels, ggR_feels_0, ggR_feels_1, ggR_feels_2, ggR_feels_3, ggR_feels_4, ggR_feels_5, ggR_feels_6, ggR_feels_7, ggR_feels_8, ggR_feels_9, ggR_feels_10, ggR_feels_11, ggR_feels_12, ggR_feels_13, ggR_feels_14, ccR_feels_0_2, ccR_feels_0_1, ccR_feels_3_1, ccR_feels_4_1, ccR_feels_7_1, ccR_feels_9_1, ccR_feels_12_1, ccR_feels_13_1, eu, ef, rR_throwsIf_f, rR_in, k_373, ffR, lk2, am_kI_x, am_kV_x, am_kI_i, am_nI_i, am_kV_i, am_nV_i, ↓reduceIte, eq_self, if_true, if_false, c_in, c_tn, pn_add, pn_mul, pn_subc, pn_addm, c_le_t, c_le_f, c_lt_t, c_lt_f, c_eq_f, c_eqm, bi_z, bi_1, bi_b, bi_T, bi_F, ite_not, up_eq, up_ne, or_self, or_true, true_or, or_false, false_or, and_true, true_and, and_self, not_true_eq_false, not_false_eq_true, Bool.false_eq_true]
      · refine ⟨_, _, J1, rfl, Or.inl ⟨(Int32.ofNat (expN w v p)), rfl, usedR_0, ?_, ?_⟩⟩
        · simp -implicitDefEqProofs (disch := (first | omega | assumption | exact am_isS_3 | exact am_isS_25 | exact am_isX_356 | exact am_isX_359)) only [uF_feels, ggF_feels_0, ggF_feels_1, ggF_feels_2, ggF_feels_3, w1_0, w1_1, w1_2, w1_3, ggF_feels_4, ggF_feels_5, ggF_feels_6, ccF_feels_0_1, ccF_feels_3_1, ccF_feels_5_1, ccF_feels_6_1, en, ffC, exC, am_kI_x, am_kV_x, am_kI_i, am_nI_i, am_kV_i, am_nV_i, ↓reduceIte, eq_self, if_true, if_false, c_in, c_tn, pn_add, pn_mul, pn_subc, pn_addm, c_le_t, c_le_f, c_lt_t, c_lt_f, c_eq_f, c_eqm, bi_z, bi_1, bi_b, bi_T, bi_F, ite_not, up_eq, up_ne, or_self, or_true, true_or, or_false, false_or, and_true, true_and, and_self, not_true_eq_false, not_false_eq_true, Bool.false_eq_true]
        · simp -implicitDefEqProofs (disch := (first | omega | assumption | exact am_isS_3 | exact am_isS_25 | exact am_isX_356 | exact am_isX_359)) only [uR_feels, ggR_feels_0, ggR_feels_1, ggR_feels_2, ggR_feels_3, ggR_feels_4, ggR_feels_5, ggR_feels_6, ggR_feels_7, ggR_feels_8, ggR_feels_9, ggR_feels_10, ggR_feels_11, ggR_feels_12, ggR_feels_13, ggR_feels_14, ccR_feels_0_2, ccR_feels_0_1, ccR_feels_3_1, ccR_feels_4_1, ccR_feels_7_1, ccR_feels_9_1, ccR_feels_12_1, ccR_feels_13_1, eu, ef, rR_throwsIf_f, rR_in, k_373, ffR, exR, am_kI_x, am_kV_x, am_kI_i, am_nI_i, am_kV_i, am_nV_i, ↓reduceIte, eq_self, if_true, if_false, c_in, c_tn, pn_add, pn_mul, pn_subc, pn_addm, c_le_t, c_le_f, c_lt_t, c_lt_f, c_eq_f, c_eqm, bi_z, bi_1, bi_b, bi_T, bi_F, ite_not, up_eq, up_ne, or_self, or_true, true_or, or_false, false_or, and_true, true_and, and_self, not_true_eq_false, not_false_eq_true, Bool.false_eq_true]
    · refine ⟨am_th (usedC hC (n / 2)), am_up (usedR hR n) 373 0 (Int32.ofNat 2), ((J.used (n / 2) n).thr (Int32.ofNat 2)).th, rfl, Or.inr ⟨4, 2, (Int32.ofNat 0), rfl, by decide, up_eq rfl rfl, ?_, ?_⟩⟩
      · rcases b2 with b2 | ⟨b2, b3, b4⟩
        · simp -implicitDefEqProofs (disch := (first | omega | assumption | exact am_isS_3 | exact am_isS_25 | exact am_isX_356 | exact am_isX_359)) only [uF_feels, ggF_feels_0, ggF_feels_1, ggF_feels_2, ggF_feels_3, w1_0, w1_1, w1_2, w1_3, ggF_feels_4, ggF_feels_5, ggF_feels_6, ccF_feels_0_1, ccF_feels_3_1, ccF_feels_5_1, ccF_feels_6_1, en, b2, am_kI_x, am_kV_x, am_kI_i, am_nI_i, am_kV_i, am_nV_i, ↓reduceIte, eq_self, if_true, if_false, c_in, c_tn, pn_add, pn_mul, pn_subc, pn_addm, c_le_t, c_le_f, c_lt_t, c_lt_f, c_eq_f, c_eqm, bi_z, bi_1, bi_b, bi_T, bi_F, ite_not, up_eq, up_ne, or_self, or_true, true_or, or_false, false_or, and_true, true_and, and_self, not_true_eq_false, not_false_eq_true, Bool.false_eq_true]
        · simp -implicitDefEqProofs (disch := (first | omega | assumption | exact am_isS_3 | exact am_isS_25 | exact am_isX_356 | exact am_isX_359)) only [uF_feels, ggF_feels_0, ggF_feels_1, ggF_feels_2, ggF_feels_3, w1_0, w1_1, w1_2, w1_3, ggF_feels_4, ggF_feels_5, ggF_feels_6, ccF_feels_0_1, ccF_feels_3_1, ccF_feels_5_1, ccF_feels_6_1, en, b2, b3, am_kI_x, am_kV_x, am_kI_i, am_nI_i, am_kV_i, am_nV_i, ↓reduceIte, eq_self, if_true, if_false, c_in, c_tn, pn_add, pn_mul, pn_subc, pn_addm, c_le_t, c_le_f, c_lt_t, c_lt_f, c_eq_f, c_eqm, bi_z, bi_1, bi_b, bi_T, bi_F, ite_not, up_eq, up_ne, or_self, or_true, true_or, or_false, false_or, and_true, true_and, and_self, not_true_eq_false, not_false_eq_true, Bool.false_eq_true]
      · simp -implicitDefEqProofs (disch := (first | omega | assumption | exact am_isS_3 | exact am_isS_25 | exact am_isX_356 | exact am_isX_359)) only [uR_feels, ggR_feels_0, ggR_feels_1, ggR_feels_2, ggR_feels_3, ggR_feels_4, ggR_feels_5, ggR_feels_6, ggR_feels_7, ggR_feels_8, ggR_feels_9, ggR_feels_10, ggR_feels_11, ggR_feels_12, ggR_feels_13, ggR_feels_14, ccR_feels_0_2, ccR_feels_0_1, ccR_feels_3_1, ccR_feels_4_1, ccR_feels_7_1, ccR_feels_9_1, ccR_feels_12_1, ccR_feels_13_1, eu, ef, rR_throwsIf_f, rR_throwsIf_t, rR_in, b1, k_373, am_kI_x, am_kV_x, am_kI_i, am_nI_i, am_kV_i, am_nV_i, ↓reduceIte, eq_self, if_true, if_false, c_in, c_tn, pn_add, pn_mul, pn_subc, pn_addm, c_le_t, c_le_f, c_lt_t, c_lt_f, c_eq_f, c_eqm, bi_z, bi_1, bi_b, bi_T, bi_F, ite_not, up_eq, up_ne, or_self, or_true, true_or, or_false, false_or, and_true, true_and, and_self, not_true_eq_false, not_false_eq_true, Bool.false_eq_true]
  · rw [bi_f ok] at ef
    have en := fun d => xF_needFeels_x hn e1 hBC ok d
    refine ⟨am_th (usedC hC 0), am_up (usedR hR n) 373 0 (Int32.ofNat 1), ((J.used 0 n).thr (Int32.ofNat 1)).th, rfl, Or.inr ⟨1, 1, (Int32.ofNat 0), rfl, by decide, up_eq rfl rfl, ?_, ?_⟩⟩
    · simp -implicitDefEqProofs (disch := (first | omega | assumption | exact am_isS_3 | exact am_isS_25 | exact am_isX_356 | exact am_isX_359)) only [uF_feels, ggF_feels_0, ggF_feels_1, ggF_feels_2, ggF_feels_3, w1_0, w1_1, w1_2, w1_3, ggF_feels_4, ggF_feels_5, ggF_feels_6, ccF_feels_0_1, ccF_feels_3_1, ccF_feels_5_1, ccF_feels_6_1, en, am_kI_x, am_kV_x, am_kI_i, am_nI_i, am_kV_i, am_nV_i, ↓reduceIte, eq_self, if_true, if_false, c_in, c_tn, pn_add, pn_mul, pn_subc, pn_addm, c_le_t, c_le_f, c_lt_t, c_lt_f, c_eq_f, c_eqm, bi_z, bi_1, bi_b, bi_T, bi_F, ite_not, up_eq, up_ne, or_self, or_true, true_or, or_false, false_or, and_true, true_and, and_self, not_true_eq_false, not_false_eq_true, Bool.false_eq_true]
    · simp -implicitDefEqProofs (disch := (first | omega | assumption | exact am_isS_3 | exact am_isS_25 | exact am_isX_356 | exact am_isX_359)) only [uR_feels, ggR_feels_0, ggR_feels_1, ggR_feels_2, ggR_feels_3, ggR_feels_4, ggR_feels_5, ggR_feels_6, ggR_feels_7, ggR_feels_8, ggR_feels_9, ggR_feels_10, ggR_feels_11, ggR_feels_12, ggR_feels_13, ggR_feels_14, ccR_feels_0_2, ccR_feels_0_1, ccR_feels_3_1, ccR_feels_4_1, ccR_feels_7_1, ccR_feels_9_1, ccR_feels_12_1, ccR_feels_13_1, eu, ef, rR_throwsIf_t, k_373, am_kI_x, am_kV_x, am_kI_i, am_nI_i, am_kV_i, am_nV_i, ↓reduceIte, eq_self, if_true, if_false, c_in, c_tn, pn_add, pn_mul, pn_subc, pn_addm, c_le_t, c_le_f, c_lt_t, c_lt_f, c_eq_f, c_eqm, bi_z, bi_1, bi_b, bi_T, bi_F, ite_not, up_eq, up_ne, or_self, or_true, true_or, or_false, false_or, and_true, true_and, and_self, not_true_eq_false, not_false_eq_true, Bool.false_eq_true]
theorem T_odds (x : Int32) : Two qF_odds [.ref 0, .int x] qR_odds [.ref 373, .int x] (am_ctt 16) := by
  intro d hC hR J
  obtain ⟨⟨N, G, R, okt, okc, okk, RL⟩, T, -⟩ := id J
  obtain ⟨n, B, hn, e1, e2, hB⟩ := bts_of T
  have hBC : ∀ i, i < 400 → B i < 256 ∧ hC.2 2 i = (Int32.ofNat (B i)) := fun i hi => ⟨(hB i hi).1, (hB i hi).2.1⟩
  have e374 : (usedR hR n).2 374 = hR.2 374 := usedR_o (by omega)
  have ef := fun d => rR_isFelt (h := usedR hR n) hn usedR_11 (B := B) (fun i hi => ⟨(hB i hi).1, by rw [usedR_o (by omega)]; exact (hB i hi).2.2⟩) d
  have eu := fun d => rR_uses e2 d
  have en := fun d => xF_takeFeels hn e1 hBC d
  rcases rng_cases 8 (by omega) x with ⟨k, hk, rfl⟩ | ⟨b1, b2⟩
  · by_cases ok : rowsOK B n 2 10 = true
    · rw [bi_t ok] at ef en
      rw [if_pos ok] at en
      have tt := told_of hB ok
      have RC := R.used (m := n / 2)
      obtain ⟨w, hw⟩ := wt_nat okt
      have hwR : ∀ t, t < 9 → w t ≤ 9 ∧ wt ((usedR hR n).2 374) t = (Int32.ofNat (w t)) := by rw [e374]; exact hw
      have ffC := fun d => xE_fitting RC tt d
      have ffR := fun d => rR_fitting tt d
      rw [e374] at ffR
      have hp := fitT_w (B := B) (n := n / 2) hw
      have oC := fun d => xE_oddsOf RC hw (fitT (hR.2 374) B (n / 2)) hp (t := k) (by omega) d
      have wsR := fun d => rR_weightsOf hwR (fitT (hR.2 374) B (n / 2)) d
      have ewR : ∀ d, am_cl (d + 3) qR_weightOf [.ref 373, .int (Int32.ofNat k)] (usedR hR n) = some (.inl (some ((Int32.ofNat (w k)))), usedR hR n) := fun d => by rw [rR_wt d (by omega), (hwR k (by omega)).2]
      generalize fitT (hR.2 374) B (n / 2) = p at ffC ffR oC wsR hp
      have hb := has_b p (N := 9) (c := k) (by omega) (by omega)
      have b1 := nsum_le (w := wiN w p) (b := 9) (n := 9) (fun t ht => wiN_le (hw t ht).1)
      have bk := (hw k (by omega)).1
      have ge := nsum_ge (f := wiN w p) (t := k) (n := 9) (by omega)
      refine ⟨_, _, J.used (n / 2) n, rfl, Or.inl ⟨(Int32.ofNat (oddN w p k)), rfl, usedR_0, ?_, ?_⟩⟩
      · simp -implicitDefEqProofs (disch := (first | omega | assumption | exact am_isS_3 | exact am_isS_25 | exact am_isX_356 | exact am_isX_359)) only [uF_odds, ggF_odds_0, ggF_odds_1, ggF_odds_2, ggF_odds_3, ggF_odds_4, ggF_odds_5, ccF_odds_0_1, ccF_odds_5_2, ccF_odds_5_1, en, ffC, oC, am_kI_x, am_kV_x, am_kI_i, am_nI_i, am_kV_i, am_nV_i, ↓reduceIte, eq_self, if_true, if_false, c_in, c_tn, pn_add, pn_mul, pn_subc, pn_addm, c_le_t, c_le_f, c_lt_t, c_lt_f, c_eq_f, c_eqm, bi_z, bi_1, bi_b, bi_T, bi_F, ite_not, up_eq, up_ne, or_self, or_true, true_or, or_false, false_or, and_true, true_and, and_self, not_true_eq_false, not_false_eq_true, Bool.false_eq_true]
      · unfold oddN
        by_cases hpk : p k = true
        · have h0 := hp k (by omega) hpk
          have ewi : wiN w p k = w k := if_pos hpk
          rw [ewi] at ge
          rw [if_pos hpk]
          simp -implicitDefEqProofs (disch := (first | omega | assumption | exact am_isS_3 | exact am_isS_25 | exact am_isX_356 | exact am_isX_359)) only [uR_odds, ggR_odds_0, ggR_odds_1, ggR_odds_2, ggR_odds_3, ggR_odds_4, ggR_odds_5, ggR_odds_6, ggR_odds_7, ggR_odds_8, ggR_odds_9, ggR_odds_10, ggR_odds_11, ggR_odds_12, ccR_odds_0_2, ccR_odds_0_1, ccR_odds_3_1, ccR_odds_4_1, ccR_odds_7_1, ccR_odds_9_2, ccR_odds_9_1, ccR_odds_10_2, ccR_odds_10_1, eu, ef, rR_throwsIf_f, rR_in, k_373, ffR, rR_has, hb, hpk, ewR, wsR, pn_div, am_kI_x, am_kV_x, am_kI_i, am_nI_i, am_kV_i, am_nV_i, ↓reduceIte, eq_self, if_true, if_false, c_in, c_tn, pn_add, pn_mul, pn_subc, pn_addm, c_le_t, c_le_f, c_lt_t, c_lt_f, c_eq_f, c_eqm, bi_z, bi_1, bi_b, bi_T, bi_F, ite_not, up_eq, up_ne, or_self, or_true, true_or, or_false, false_or, and_true, true_and, and_self, not_true_eq_false, not_false_eq_true, Bool.false_eq_true]
        · rw [if_neg hpk]
          simp -implicitDefEqProofs (disch := (first | omega | assumption | exact am_isS_3 | exact am_isS_25 | exact am_isX_356 | exact am_isX_359)) only [uR_odds, ggR_odds_0, ggR_odds_1, ggR_odds_2, ggR_odds_3, ggR_odds_4, ggR_odds_5, ggR_odds_6, ggR_odds_7, ggR_odds_8, ggR_odds_9, ggR_odds_10, ggR_odds_11, ggR_odds_12, ccR_odds_0_2, ccR_odds_0_1, ccR_odds_3_1, ccR_odds_4_1, ccR_odds_7_1, ccR_odds_9_2, ccR_odds_9_1, ccR_odds_10_2, ccR_odds_10_1, eu, ef, rR_throwsIf_f, rR_in, k_373, ffR, rR_has, hb, hpk, am_kI_x, am_kV_x, am_kI_i, am_nI_i, am_kV_i, am_nV_i, ↓reduceIte, eq_self, if_true, if_false, c_in, c_tn, pn_add, pn_mul, pn_subc, pn_addm, c_le_t, c_le_f, c_lt_t, c_lt_f, c_eq_f, c_eqm, bi_z, bi_1, bi_b, bi_T, bi_F, ite_not, up_eq, up_ne, or_self, or_true, true_or, or_false, false_or, and_true, true_and, and_self, not_true_eq_false, not_false_eq_true, Bool.false_eq_true]
    · rw [bi_f ok] at ef en
      rw [if_neg ok] at en
      refine ⟨am_th (usedC hC 0), am_up (usedR hR n) 373 0 (Int32.ofNat 2), ((J.used 0 n).thr (Int32.ofNat 2)).th, rfl, Or.inr ⟨1, 2, (Int32.ofNat 0), rfl, by decide, up_eq rfl rfl, ?_, ?_⟩⟩
      · simp -implicitDefEqProofs (disch := (first | omega | assumption | exact am_isS_3 | exact am_isS_25 | exact am_isX_356 | exact am_isX_359)) only [uF_odds, ggF_odds_0, ggF_odds_1, ggF_odds_2, ggF_odds_3, ggF_odds_4, ggF_odds_5, ccF_odds_0_1, ccF_odds_5_2, ccF_odds_5_1, en, am_kI_x, am_kV_x, am_kI_i, am_nI_i, am_kV_i, am_nV_i, ↓reduceIte, eq_self, if_true, if_false, c_in, c_tn, pn_add, pn_mul, pn_subc, pn_addm, c_le_t, c_le_f, c_lt_t, c_lt_f, c_eq_f, c_eqm, bi_z, bi_1, bi_b, bi_T, bi_F, ite_not, up_eq, up_ne, or_self, or_true, true_or, or_false, false_or, and_true, true_and, and_self, not_true_eq_false, not_false_eq_true, Bool.false_eq_true]
      · simp -implicitDefEqProofs (disch := (first | omega | assumption | exact am_isS_3 | exact am_isS_25 | exact am_isX_356 | exact am_isX_359)) only [uR_odds, ggR_odds_0, ggR_odds_1, ggR_odds_2, ggR_odds_3, ggR_odds_4, ggR_odds_5, ggR_odds_6, ggR_odds_7, ggR_odds_8, ggR_odds_9, ggR_odds_10, ggR_odds_11, ggR_odds_12, ccR_odds_0_2, ccR_odds_0_1, ccR_odds_3_1, ccR_odds_4_1, ccR_odds_7_1, ccR_odds_9_2, ccR_odds_9_1, ccR_odds_10_2, ccR_odds_10_1, eu, ef, rR_throwsIf_f, rR_throwsIf_t, rR_in, k_373, am_kI_x, am_kV_x, am_kI_i, am_nI_i, am_kV_i, am_nV_i, ↓reduceIte, eq_self, if_true, if_false, c_in, c_tn, pn_add, pn_mul, pn_subc, pn_addm, c_le_t, c_le_f, c_lt_t, c_lt_f, c_eq_f, c_eqm, bi_z, bi_1, bi_b, bi_T, bi_F, ite_not, up_eq, up_ne, or_self, or_true, true_or, or_false, false_or, and_true, true_and, and_self, not_true_eq_false, not_false_eq_true, Bool.false_eq_true]
  · refine ⟨am_th (usedC hC (if rowsOK B n 2 10 = true then n / 2 else 0)), am_up (usedR hR n) 373 0 (Int32.ofNat 1), ((J.used _ n).thr (Int32.ofNat 1)).th, rfl, Or.inr ⟨3, 1, (Int32.ofNat 0), rfl, by decide, up_eq rfl rfl, ?_, ?_⟩⟩
    · rcases b2 with b2 | ⟨b2, b3, b4⟩
      · simp -implicitDefEqProofs (disch := (first | omega | assumption | exact am_isS_3 | exact am_isS_25 | exact am_isX_356 | exact am_isX_359)) only [uF_odds, ggF_odds_0, ggF_odds_1, ggF_odds_2, ggF_odds_3, ggF_odds_4, ggF_odds_5, ccF_odds_0_1, ccF_odds_5_2, ccF_odds_5_1, en, b2, am_kI_x, am_kV_x, am_kI_i, am_nI_i, am_kV_i, am_nV_i, ↓reduceIte, eq_self, if_true, if_false, c_in, c_tn, pn_add, pn_mul, pn_subc, pn_addm, c_le_t, c_le_f, c_lt_t, c_lt_f, c_eq_f, c_eqm, bi_z, bi_1, bi_b, bi_T, bi_F, ite_not, up_eq, up_ne, or_self, or_true, true_or, or_false, false_or, and_true, true_and, and_self, not_true_eq_false, not_false_eq_true, Bool.false_eq_true]
      · simp -implicitDefEqProofs (disch := (first | omega | assumption | exact am_isS_3 | exact am_isS_25 | exact am_isX_356 | exact am_isX_359)) only [uF_odds, ggF_odds_0, ggF_odds_1, ggF_odds_2, ggF_odds_3, ggF_odds_4, ggF_odds_5, ccF_odds_0_1, ccF_odds_5_2, ccF_odds_5_1, en, b2, b3, am_kI_x, am_kV_x, am_kI_i, am_nI_i, am_kV_i, am_nV_i, ↓reduceIte, eq_self, if_true, if_false, c_in, c_tn, pn_add, pn_mul, pn_subc, pn_addm, c_le_t, c_le_f, c_lt_t, c_lt_f, c_eq_f, c_eqm, bi_z, bi_1, bi_b, bi_T, bi_F, ite_not, up_eq, up_ne, or_self, or_true, true_or, or_false, false_or, and_true, true_and, and_self, not_true_eq_false, not_false_eq_true, Bool.false_eq_true]
    · simp -implicitDefEqProofs (disch := (first | omega | assumption | exact am_isS_3 | exact am_isS_25 | exact am_isX_356 | exact am_isX_359)) only [uR_odds, ggR_odds_0, ggR_odds_1, ggR_odds_2, ggR_odds_3, ggR_odds_4, ggR_odds_5, ggR_odds_6, ggR_odds_7, ggR_odds_8, ggR_odds_9, ggR_odds_10, ggR_odds_11, ggR_odds_12, ccR_odds_0_2, ccR_odds_0_1, ccR_odds_3_1, ccR_odds_4_1, ccR_odds_7_1, ccR_odds_9_2, ccR_odds_9_1, ccR_odds_10_2, ccR_odds_10_1, eu, rR_throwsIf_t, rR_in, b1, k_373, am_kI_x, am_kV_x, am_kI_i, am_nI_i, am_kV_i, am_nV_i, ↓reduceIte, eq_self, if_true, if_false, c_in, c_tn, pn_add, pn_mul, pn_subc, pn_addm, c_le_t, c_le_f, c_lt_t, c_lt_f, c_eq_f, c_eqm, bi_z, bi_1, bi_b, bi_T, bi_F, ite_not, up_eq, up_ne, or_self, or_true, true_or, or_false, false_or, and_true, true_and, and_self, not_true_eq_false, not_false_eq_true, Bool.false_eq_true]
