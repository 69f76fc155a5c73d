/-! the law, of both -/
theorem T_law : Two qF_law [.ref 0] qR_law [.ref 373] (am_ctt 1) := by
  intro d hC hR J
  obtain ⟨⟨N, G, L⟩, jt, jf, ji, jp, jk⟩ := id J
  obtain ⟨R, okt, okc, okk, RL⟩ := id L
  have hN := R.1
  have a1 := fun d => xL_clear hC d
  have c0 : ∀ p, p ≠ 342 → (am_up (am_up hC 342 6 (Int32.ofNat 0)) 342 7 (Int32.ofNat 0)).2 p = hC.2 p := fun p hp => by rw [up_o hp, up_o hp]
  obtain ⟨B, E, n, h1, hE, f1, f2, to⟩ := law_read (hC := am_up (am_up hC 342 6 (Int32.ofNat 0)) 342 7 (Int32.ofNat 0)) (hR := hR) (jt.of (by rw [c0 1 (by omega)]) (c0 2 (by omega)) rfl rfl) (fun t ht => by rw [c0 _ (by omega)]; exact jk.1 t ht) (by rw [up_ne (by omega)]; exact up_eq rfl rfl) (up_eq rfl rfl) (d + 78) (d + 77)
  have hs : ∀ a, ¬ ((Int32.ofNat (stt B E a)) : Int32) = -1 := fun a z => ne_m1 (by have := stt_le (B := B) (E := E) a; omega) z.symm
  have ff : ∀ hC' hR', LawF h1 (startR hR E) hC' hR' → hC'.1 = hC.1 ∧ (∀ p, (p < 342 ∨ 347 ≤ p) → (p < 359 ∨ 362 ≤ p) → hC'.2 p = hC.2 p) ∧ hR'.1 = hR.1 ∧ (∀ p, p ≠ 374 → p ≠ 373 → hR'.2 p = hR.2 p) ∧ (∀ i, i = 6 ∨ i = 7 → hR'.2 373 i = hR.2 373 i) ∧ hR'.2 373 9 = (Int32.ofNat 0) ∧ hR'.2 373 0 = (Int32.ofNat 0) ∧ ∀ j, j < 1264 → hR'.2 374 j = hR.2 374 j := fun hC' hR' F => by
    obtain ⟨g1, g2, g3, g4, g5, g6⟩ := F
    refine ⟨g1.trans f1, fun p q1 q2 => by rw [g2 p q1 (by omega), f2 p (by omega) (by omega) (by omega), c0 p (by omega)], g3, fun p q1 q2 => by rw [g4 p q1 q2, startR_o q2], fun i hi => by rw [g5 i (by omega) (by omega) (by omega) (by omega), startR_i (by omega)], by rw [g5 9 (by omega) (by omega) (by omega) (by omega)]; exact startR_9, by rw [g5 0 (by omega) (by omega) (by omega) (by omega)]; exact startR_0, fun j hj => by rw [g6 j hj, startR_o (by omega)]⟩
  rcases to with ⟨hC', hR', p', a', q1, q2, b1, F⟩ | ⟨hC', hR', p', b', a', k, q1, q2, -, ha, T, ea, TR, e6, e12, ⟨l, Ef, la, e7, e16, cd, E0, Ei, ol⟩, b1, F⟩
  · obtain ⟨g1, g2, g3, g4, g5, g6, g7, g8⟩ := ff _ _ F
    have hsa := hs a'
    have ec : ∀ p, p ≠ 0 → p ≠ 1 → (p < 342 ∨ 347 ≤ p) → (p < 359 ∨ 362 ≤ p) → (am_up (am_up hC' 0 14 (Int32.ofNat (stt B E a'))) 1 1 (Int32.ofNat 0)).2 p = hC.2 p := fun p z1 z2 z3 z4 => by rw [up_o z2, up_o z1, g2 p z3 z4]
    have eW : ∀ j, j < 1264 → (am_up (am_up (rs hR' p' (stt B E a')) 373 14 (Int32.ofNat (stt B E a'))) 373 0 (Int32.ofNat 1)).2 374 j = hR.2 374 j := fun j hj => by rw [up_o (by omega), up_o (by omega), rs_o (by omega)]; exact g8 j hj
    refine ⟨am_th (am_up (am_up hC' 0 14 (Int32.ofNat (stt B E a'))) 1 1 (Int32.ofNat 0)), am_up (am_up (rs hR' p' (stt B E a')) 373 14 (Int32.ofNat (stt B E a'))) 373 0 (Int32.ofNat 1), J2.th (J.txt ⟨N, G, L.of (fun p z1 z2 => ec p (by omega) (by omega) (by omega) (by omega)) (fun p z1 z2 => ec p (by omega) (by omega) (by omega) (by omega)) eW⟩ ?_ (fun t ht => ?_) (up_eq rfl rfl) ?_ ?_ ?_ (fun p hp => ec p (by omega) (by omega) (by omega) (by omega)) ?_ (fun p hp => ?_)), g3, Or.inr ⟨1, 1, (Int32.ofNat 0), ?_, by decide, up_eq rfl rfl, ?_, ?_⟩⟩
    · exact jp.of (ec 69 (by omega) (by omega) (by omega) (by omega)) (fun p z1 z2 => ec p (by omega) (by omega) (by omega) (by omega)) (by rw [up_ne (by omega), up_ne (by omega), rs_ne (by omega)]; exact g5 7 (by omega)) (by rw [up_o (by omega), up_o (by omega), rs_o (by omega)]; exact g4 378 (by omega) (by omega)) (eW 2 (by omega))
    · rw [up_ne (by omega), up_ne (by omega)]; exact b1 t ht
    · rw [up_ne (by omega), up_ne (by omega), rs_ne (by omega)]; exact g6
    · rw [up_ne (by omega), up_eq rfl rfl, up_ne (by omega), up_eq rfl rfl]
    · rw [up_ne (by omega), up_ne (by omega), g2 0 (by omega) (by omega)]
    · rw [up_ne (by omega), up_ne (by omega), rs_ne (by omega)]; exact g5 6 (by omega)
    · rw [up_o (by omega), up_o (by omega), rs_o (by omega)]; exact g4 p (by omega) (by omega)
    · show hC'.1 + 1 = hC.1 + 1
      rw [g1]
    · simp -implicitDefEqProofs (disch := (first | omega | assumption | exact am_isS_3 | exact am_isS_25 | exact am_isX_356 | exact am_isX_359)) only [uF_law, ggF_law_0, ggF_law_1, ggF_law_2, ccF_law_0_2, ccF_law_0_1, ccF_law_2_2, ccF_law_2_1, a1, q1, hsa, am_kI_x, am_kV_x, am_kI_i, am_nI_i, am_kV_i, am_nV_i, ↓reduceIte, eq_self, if_true, if_false, c_in, c_tn, pn_add, pn_mul, pn_subc, pn_addm, c_le_t, c_le_f, c_lt_t, c_lt_f, c_eq_f, c_eqm, bi_z, bi_1, bi_b, bi_T, bi_F, ite_not, up_eq, up_ne, or_self, or_true, true_or, or_false, false_or, and_true, true_and, and_self, not_true_eq_false, not_false_eq_true, Bool.false_eq_true]
    · simp -implicitDefEqProofs (disch := (first | omega | assumption | exact am_isS_3 | exact am_isS_25 | exact am_isX_356 | exact am_isX_359)) only [uR_law, ggR_law_0, ggR_law_1, ggR_law_2, ggR_law_3, ggR_law_4, ggR_law_5, ggR_law_6, ggR_law_7, ggR_law_8, ggR_law_10, ggR_law_11, ccR_law_0_1, ccR_law_6_1, q2, rs_b, rR_throwsIf_t, m1_neg0, kd373, kk373, am_kI_x, am_kV_x, am_kI_i, am_nI_i, am_kV_i, am_nV_i, ↓reduceIte, eq_self, if_true, if_false, c_in, c_tn, pn_add, pn_mul, pn_subc, pn_addm, c_le_t, c_le_f, c_lt_t, c_lt_f, c_eq_f, c_eqm, bi_z, bi_1, bi_b, bi_T, bi_F, ite_not, up_eq, up_ne, or_self, or_true, true_or, or_false, false_or, and_true, true_and, and_self, not_true_eq_false, not_false_eq_true, Bool.false_eq_true]
  · obtain ⟨g1, g2, g3, g4, g5, g6, g7, g8⟩ := ff _ _ F
    sorry
