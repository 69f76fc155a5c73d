/-! the law, of both -/
theorem T_law : Two qF_law [.ref 0] qR_law [.ref 373] (am_ctt 1) := by
  intro d hC hR J
  obtain ⟨⟨N, G, L⟩, jt, jf, ji, jp, jk⟩ := id J
  obtain ⟨R, okt, okc, okk, RL⟩ := id L
  have hN := R.1
  have a1 := fun d => xL_clear hC d
  have c0 : ∀ p, p ≠ 342 → (am_up (am_up hC 342 6 (Int32.ofNat 0)) 342 7 (Int32.ofNat 0)).2 p = hC.2 p := fun p hp => by rw [up_o hp, up_o hp]
  obtain ⟨B, E, n, h1, hE, f1, f2, to⟩ := law_read (hC := am_up (am_up hC 342 6 (Int32.ofNat 0)) 342 7 (Int32.ofNat 0)) (hR := hR) (jt.of (by rw [c0 1 (by omega)]) (c0 2 (by omega)) rfl rfl) (fun t ht => by rw [c0 _ (by omega)]; exact jk.1 t ht) (by rw [up_ne (by omega)]; exact up_eq rfl rfl) (up_eq rfl rfl) (d + 78) (d + 77)
  have hs : ∀ a, ¬ ((Int32.ofNat (stt B E a)) : Int32) = -1 := fun a z => ne_m1 (by have := stt_le (B := B) (E := E) a; omega) z.symm
  have ff : ∀ hC' hR', LawF h1 (startR hR E) hC' hR' → hC'.1 = hC.1 ∧ (∀ p, (p < 342 ∨ 347 ≤ p) → (p < 359 ∨ 362 ≤ p) → hC'.2 p = hC.2 p) ∧ hR'.1 = hR.1 ∧ (∀ p, p ≠ 374 → p ≠ 373 → hR'.2 p = hR.2 p) ∧ (∀ i, i = 6 ∨ i = 7 → hR'.2 373 i = hR.2 373 i) ∧ hR'.2 373 9 = (Int32.ofNat 0) ∧ hR'.2 373 0 = (Int32.ofNat 0) ∧ ∀ j, j < 1264 → hR'.2 374 j = hR.2 374 j := fun hC' hR' F => by
    obtain ⟨g1, g2, g3, g4, g5, g6⟩ := F
    refine ⟨g1.trans f1, fun p q1 q2 => by rw [g2 p q1 (by omega), f2 p (by omega) (by omega) (by omega), c0 p (by omega)], g3, fun p q1 q2 => by rw [g4 p q1 q2, startR_o q2], fun i hi => by rw [g5 i (by omega) (by omega) (by omega) (by omega), startR_i (by omega)], by rw [g5 9 (by omega) (by omega) (by omega) (by omega)]; exact startR_9, by rw [g5 0 (by omega) (by omega) (by omega) (by omega)]; exact startR_0, fun j hj => by rw [g6 j hj, startR_o (by omega)]⟩
  rcases to with ⟨hC', hR', p', a', q1, q2, b1, F⟩ | ⟨hC', hR', p', b', a', k, q1, q2, -, ha, T, ea, TR, e6, e12, ⟨l, Ef, la, e7, e16, cd, E0, Ei, ol⟩, b1, F⟩
  · obtain ⟨g1, g2, g3, g4, g5, g6, g7, g8⟩ := ff _ _ F
    have hsa := hs a'
    have ec : ∀ p, p ≠ 0 → p ≠ 1 → (p < 342 ∨ 347 ≤ p) → (p < 359 ∨ 362 ≤ p) → (am_up (am_up hC' 0 14 (Int32.ofNat (stt B E a'))) 1 1 (Int32.ofNat 0)).2 p = hC.2 p := fun p z1 z2 z3 z4 => by rw [up_o z2, up_o z1, g2 p z3 z4]
    have eW : ∀ j, j < 1264 → (am_up (am_up (rs hR' p' (stt B E a')) 373 14 (Int32.ofNat (stt B E a'))) 373 0 (Int32.ofNat 1)).2 374 j = hR.2 374 j := fun j hj => by rw [up_o (by omega), up_o (by omega), rs_o (by omega)]; exact g8 j hj
    refine ⟨am_th (am_up (am_up hC' 0 14 (Int32.ofNat (stt B E a'))) 1 1 (Int32.ofNat 0)), am_up (am_up (rs hR' p' (stt B E a')) 373 14 (Int32.ofNat (stt B E a'))) 373 0 (Int32.ofNat 1), J2.th (J.txt ⟨N, G, L.of (fun p z1 z2 => ec p (by omega) (by omega) (by omega) (by omega)) (fun p z1 z2 => ec p (by omega) (by omega) (by omega) (by omega)) eW⟩ ?_ (fun t ht => ?_) (up_eq rfl rfl) ?_ ?_ ?_ (fun p hp => ec p (by omega) (by omega) (by omega) (by omega)) ?_ (fun p hp => ?_)), g3, Or.inr ⟨1, 1, (Int32.ofNat 0), ?_, by decide, up_eq rfl rfl, ?_, ?_⟩⟩
    · exact jp.of (ec 69 (by omega) (by omega) (by omega) (by omega)) (fun p z1 z2 => ec p (by omega) (by omega) (by omega) (by omega)) (by rw [up_ne (by omega), up_ne (by omega), rs_ne (by omega)]; exact g5 7 (by omega)) (by rw [up_o (by omega), up_o (by omega), rs_o (by omega)]; exact g4 378 (by omega) (by omega)) (eW 2 (by omega))
    · rw [up_ne (by omega), up_ne (by omega)]; exact b1 t ht
    · rw [up_ne (by omega), up_ne (by omega), rs_ne (by omega)]; exact g6
    · rw [up_ne (by omega), up_eq rfl rfl, up_ne (by omega), up_eq rfl rfl]
    · rw [up_ne (by omega), up_ne (by omega), g2 0 (by omega) (by omega)]
    · rw [up_ne (by omega), up_ne (by omega), rs_ne (by omega)]; exact g5 6 (by omega)
    · rw [up_o (by omega), up_o (by omega), rs_o (by omega)]; exact g4 p (by omega) (by omega)
    · show hC'.1 + 1 = hC.1 + 1
      rw [g1]
    · simp -implicitDefEqProofs (disch := (first | omega | assumption | exact am_isS_3 | exact am_isS_25 | exact am_isX_356 | exact am_isX_359)) only [uF_law, ggF_law_0, ggF_law_1, ggF_law_2, ccF_law_0_2, ccF_law_0_1, ccF_law_2_2, ccF_law_2_1, a1, q1, hsa, am_kI_x, am_kV_x, am_kI_i, am_nI_i, am_kV_i, am_nV_i, ↓reduceIte, eq_self, if_true, if_false, c_in, c_tn, pn_add, pn_mul, pn_subc, pn_addm, c_le_t, c_le_f, c_lt_t, c_lt_f, c_eq_f, c_eqm, bi_z, bi_1, bi_b, bi_T, bi_F, ite_not, up_eq, up_ne, or_self, or_true, true_or, or_false, false_or, and_true, true_and, and_self, not_true_eq_false, not_false_eq_true, Bool.false_eq_true]
    · simp -implicitDefEqProofs (disch := (first | omega | assumption | exact am_isS_3 | exact am_isS_25 | exact am_isX_356 | exact am_isX_359)) only [uR_law, ggR_law_0, ggR_law_1, ggR_law_2, ggR_law_3, ggR_law_4, ggR_law_5, ggR_law_6, ggR_law_7, ggR_law_8, ggR_law_10, ggR_law_11, ccR_law_0_1, ccR_law_6_1, q2, rs_b, rR_throwsIf_t, m1_neg0, kd373, kk373, am_kI_x, am_kV_x, am_kI_i, am_nI_i, am_kV_i, am_nV_i, ↓reduceIte, eq_self, if_true, if_false, c_in, c_tn, pn_add, pn_mul, pn_subc, pn_addm, c_le_t, c_le_f, c_lt_t, c_lt_f, c_eq_f, c_eqm, bi_z, bi_1, bi_b, bi_T, bi_F, ite_not, up_eq, up_ne, or_self, or_true, true_or, or_false, false_or, and_true, true_and, and_self, not_true_eq_false, not_false_eq_true, Bool.false_eq_true]
  · obtain ⟨g1, g2, g3, g4, g5, g6, g7, g8⟩ := ff _ _ F
    have k0 : ((Int32.ofNat 0) : Int32) ≤ (Int32.ofNat k) := by rw [pn_le (by omega) (by omega)]; omega
    have n4 := T.1
    have eD : ∀ j, (am_up (am_up (rs hR' p' b') 373 14 (-1)) 374 1264 (Int32.ofNat k)).2 374 j = if j = 1264 then (Int32.ofNat k) else hR'.2 374 j := fun j => by
      by_cases z : j = 1264
      · rw [if_pos z, z]; exact up_eq rfl rfl
      · rw [if_neg z, up_ne (by omega), up_ne (by omega), rs_ne (by omega)]
    have e9 := rR_law_9 (d + 119) (am_up (am_up (rs hR' p' b') 373 14 (-1)) 374 1264 (Int32.ofNat k)) (Int32.ofNat k)
    obtain ⟨W, eW⟩ : ∃ W, W = lawW ((am_up (am_up (rs hR' p' b') 373 14 (-1)) 374 1264 (Int32.ofNat k)).2 374) := ⟨_, rfl⟩
    rw [← eW] at e9
    have Win : ∀ j, 415 < j → j < 1264 → W j = hR'.2 374 (j + 849) := fun j h1 h2 => by rw [eW, lawW_in (by omega) h2, eD, if_neg (by omega)]
    have W415 : W 415 = (Int32.ofNat k) := by rw [eW, lawW_in (by omega) (by omega), eD, if_pos (by omega)]
    have Wlo : ∀ j, j < 415 → W j = hR.2 374 j := fun j hj => by rw [eW, lawW_out (by omega), eD, if_neg (by omega)]; exact g8 j (by omega)
    have c1 : ∀ p, p ≠ 0 → p ≠ 1 → (am_up (am_up hC' 0 14 (-1)) 1 1 (Int32.ofNat 0)).2 p = hC'.2 p := fun p z1 z2 => by rw [up_o z2, up_o z1]
    have lbC : lb (am_up (am_up hC' 0 14 (-1)) 1 1 (Int32.ofNat 0)) 342 := fun t ht => by rw [c1 _ (by omega) (by omega)]; exact b1 t ht
    have RL2 : RelL (am_up (am_up hC' 0 14 (-1)) 1 1 (Int32.ofNat 0)) 342 (pu W 2 (Int32.ofNat 1)) := by
      refine ⟨lbC, Or.inr ⟨pu_eq rfl, k, Ef, Kof hR', Nof hR', ⟨e12, by rw [pu_ne (by omega)]; exact W415, E0, by omega, fun t ht => (ol t ht).1.2.2.2.2.2.2.2.1, fun t ht => ?_, fun j hj => ?_, fun t ht => (ol t ht).1.2.2.2.2.2.2.2.2⟩, by rw [c1 342 (by omega) (by omega)]; exact e6, fun t ht => ?_, fun j hj => ?_⟩⟩
      · obtain ⟨o1, o2, o3, o4, -⟩ := (ol t ht).1
        rw [pu_ne (by omega), pu_ne (by omega), pu_ne (by omega), pu_ne (by omega), Win _ (by omega) (by omega), Win _ (by omega) (by omega), Win _ (by omega) (by omega), Win _ (by omega) (by omega), show 416 + 4 * t + 2 + 849 = 1265 + 4 * t + 2 by omega, show 416 + 4 * t + 3 + 849 = 1265 + 4 * t + 3 by omega, show 416 + 4 * t + 849 = 1265 + 4 * t by omega, show 416 + 4 * t + 1 + 849 = 1265 + 4 * t + 1 by omega]
        exact ⟨o1, o2, o3, o4⟩
      · rw [pu_ne (by omega), pu_ne (by omega), Win _ (by omega) (by omega), Win _ (by omega) (by omega), show 464 + 2 * j + 849 = 1313 + 2 * j by omega, show 464 + 2 * j + 1 + 849 = 1313 + 2 * j + 1 by omega]
        exact ⟨(cd j (by omega)).1, (of_toNat _).symm, rfl⟩
      · obtain ⟨-, -, -, -, o5, o6, o7, -⟩ := (ol t ht).1
        rw [pu_ne (by omega), pu_ne (by omega), Win _ (by omega) (by omega), Win _ (by omega) (by omega), show 416 + 4 * t + 849 = 1265 + 4 * t by omega, show 416 + 4 * t + 1 + 849 = 1265 + 4 * t + 1 by omega, c1 _ (by omega) (by omega), c1 _ (by omega) (by omega), c1 _ (by omega) (by omega)]
        exact ⟨o5, o6, o7⟩
      · rw [c1 _ (by omega) (by omega)]
        exact (cd j (by omega)).2
    obtain ⟨h4, x1, x2, x3, x4, x5⟩ := xL_cp_335_342 (d + 118) (am_up (am_up hC' 0 14 (-1)) 1 1 (Int32.ofNat 0)) lbC
    have RL3 := x5 _ RL2
    have v4 : h4.2 335 6 = (Int32.ofNat k) := by
      rcases RL3.2 with ⟨z, -⟩ | ⟨-, L', E', K', n', t1, t2⟩
      · rw [pu_eq rfl] at z
        exact absurd z (by decide)
      · rw [t2.1, ← t1.2.1, pu_ne (by omega)]; exact W415
    have ef := fun d => xP_forget d h4
    have eR : (am_up (am_up (cw (am_up (am_up (rs hR' p' b') 373 14 (-1)) 374 1264 (Int32.ofNat k)) 374 W) 374 2 (Int32.ofNat 1)) 373 7 (Int32.ofNat 0)).2 374 = pu W 2 (Int32.ofNat 1) := by rw [up_o (by omega), up_pu, cw_eq]
    have eo : ∀ p, p ≠ 374 → p ≠ 373 → (am_up (am_up (cw (am_up (am_up (rs hR' p' b') 373 14 (-1)) 374 1264 (Int32.ofNat k)) 374 W) 374 2 (Int32.ofNat 1)) 373 7 (Int32.ofNat 0)).2 p = hR.2 p := fun p z1 z2 => by rw [up_o z2, up_o z1, cw_ne z1, up_o z1, up_o z2, rs_o z2]; exact g4 p z1 z2
    have e3 : ∀ i, i ≠ 7 → i ≠ 14 → i ≠ 10 → i ≠ 12 → (am_up (am_up (cw (am_up (am_up (rs hR' p' b') 373 14 (-1)) 374 1264 (Int32.ofNat k)) 374 W) 374 2 (Int32.ofNat 1)) 373 7 (Int32.ofNat 0)).2 373 i = hR'.2 373 i := fun i z1 z2 z3 z4 => by rw [up_ne (by omega), up_ne (by omega), cw_ne (by omega), up_ne (by omega), up_ne (by omega), rs_ne (by omega)]
    have e14 : (am_up (am_up (cw (am_up (am_up (rs hR' p' b') 373 14 (-1)) 374 1264 (Int32.ofNat k)) 374 W) 374 2 (Int32.ofNat 1)) 373 7 (Int32.ofNat 0)).2 373 14 = -1 := by rw [up_ne (by omega), up_ne (by omega), cw_ne (by omega), up_ne (by omega)]; exact up_eq rfl rfl
    have ec : ∀ p, p ≠ 0 → p ≠ 1 → p ≠ 69 → (p < 335 ∨ 347 ≤ p) → (p < 359 ∨ 362 ≤ p) → (am_up h4 69 2 (Int32.ofNat 0)).2 p = hC.2 p := fun p z1 z2 z5 z3 z4 => by rw [up_o z5, x3 p (by omega), c1 p z1 z2, g2 p (by omega) z4]
    refine ⟨am_up h4 69 2 (Int32.ofNat 0), _, J.txt ⟨N, G, (R.frame (fun p z1 z2 => ec p (by omega) (by omega) (by omega) (by omega) (by omega))).row2 ?_, okt.row2 ?_, okc.of hN ?_, okk.of hN ?_, RL3.of (fun p z1 z2 => up_o (by omega)) (by rw [eR]) (fun j z1 z2 => by rw [eR])⟩ ?_ (fun t ht => ?_) ?_ ?_ ?_ ?_ (fun p hp => ec p (by omega) (by omega) (by omega) (by omega) (by omega)) ?_ (fun p hp => eo p (by omega) (by omega)), ?_, Or.inl ⟨(Int32.ofNat k), ?_, ?_, ?_, ?_⟩⟩
    · intro j h1 h2; rw [eR, pu_ne (by omega)]; exact Wlo j h1
    · intro j h1 h2; rw [eR, pu_ne (by omega)]; exact Wlo j h1
    · intro j h1 h2; rw [eR, pu_ne (by omega)]; exact Wlo j (by omega)
    · intro j h1 h2; rw [eR, pu_ne (by omega)]; exact Wlo j (by omega)
    · obtain ⟨m, s, hm, hs', p1, p2, p3, p4⟩ := jp
      refine ⟨0, s, by omega, hs', up_eq rfl rfl, ?_, up_eq rfl rfl, fun i hi => absurd hi (by omega)⟩
      rw [up_ne (by omega), x3 69 (by omega), c1 69 (by omega) (by omega), g2 69 (by omega) (by omega)]
      exact p2
    · rw [up_o (by omega), x3 _ (by omega)]; exact lbC t ht
    · rw [up_ne (by omega), x3 1 (by omega)]; exact up_eq rfl rfl
    · rw [e3 9 (by omega) (by omega) (by omega) (by omega)]; exact g6
    · rw [e14, up_ne (by omega), x3 0 (by omega), up_ne (by omega)]; exact up_eq rfl rfl
    · rw [up_ne (by omega), x3 0 (by omega), up_ne (by omega), up_ne (by omega), g2 0 (by omega) (by omega)]
    · rw [e3 6 (by omega) (by omega) (by omega) (by omega)]; exact g5 6 (by omega)
    · exact g3
    · show h4.1 = hC.1
      rw [x2]
      exact g1
    · rw [e3 0 (by omega) (by omega) (by omega) (by omega)]; exact g7
    · simp -implicitDefEqProofs (disch := (first | omega | assumption | exact am_isS_3 | exact am_isS_25 | exact am_isX_356 | exact am_isX_359)) only [uF_law, ggF_law_0, ggF_law_1, ggF_law_2, ccF_law_0_2, ccF_law_0_1, ccF_law_2_2, ccF_law_2_1, a1, q1, x1, ef, v4, am_kI_x, am_kV_x, am_kI_i, am_nI_i, am_kV_i, am_nV_i, ↓reduceIte, eq_self, if_true, if_false, c_in, c_tn, pn_add, pn_mul, pn_subc, pn_addm, c_le_t, c_le_f, c_lt_t, c_lt_f, c_eq_f, c_eqm, bi_z, bi_1, bi_b, bi_T, bi_F, ite_not, up_eq, up_ne, or_self, or_true, true_or, or_false, false_or, and_true, true_and, and_self, not_true_eq_false, not_false_eq_true, Bool.false_eq_true]
    · simp -implicitDefEqProofs (disch := (first | omega | assumption | exact am_isS_3 | exact am_isS_25 | exact am_isX_356 | exact am_isX_359)) only [uR_law, ggR_law_0, ggR_law_1, ggR_law_2, ggR_law_3, ggR_law_4, ggR_law_5, ggR_law_6, ggR_law_7, ggR_law_8, ggR_law_10, ggR_law_11, ccR_law_0_1, ccR_law_6_1, q2, k0, rR_throwsIf_f, kd373, kk373, e9, am_kI_x, am_kV_x, am_kI_i, am_nI_i, am_kV_i, am_nV_i, ↓reduceIte, eq_self, if_true, if_false, c_in, c_tn, pn_add, pn_mul, pn_subc, pn_addm, c_le_t, c_le_f, c_lt_t, c_lt_f, c_eq_f, c_eqm, bi_z, bi_1, bi_b, bi_T, bi_F, ite_not, up_eq, up_ne, or_self, or_true, true_or, or_false, false_or, and_true, true_and, and_self, not_true_eq_false, not_false_eq_true, Bool.false_eq_true]
