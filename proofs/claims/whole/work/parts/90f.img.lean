/-! image, back -/
theorem rR_image (d : Nat) (h : am_H) : am_cl (d + 1) qR_image [.ref 373] h = some (.inl none, am_up (cw (am_up h 373 0 (Int32.ofNat 0)) 375 (cpy (h.2 374) (h.2 375) 0 1264)) 373 6 (Int32.ofNat 1)) := by
  rw [← itr_cpy0]
  have := lp (Φ := am_cl d) (q := qR_image) (b := 1) (N := 1264) (L := fun i _ => [.ref 373, .int (Int32.ofNat i)]) (H := fun s => cw (am_up h 373 0 (Int32.ofNat 0)) 375 s) (f := fun i s => pu s i (h.2 374 i)) (R := fun s => some (.inl none, am_up (cw (am_up h 373 0 (Int32.ofNat 0)) 375 s) 373 6 (Int32.ofNat 1))) (fun i s hi => by
    rw [ggR_image_1]
    simp -implicitDefEqProofs (disch := (first | omega | assumption | exact am_isS_3 | exact am_isS_25 | exact am_isX_356 | exact am_isX_359)) only [ggR_image_0, ggR_image_2, ggR_image_3, cw_up, cw_ne, up_o, am_kI_x, am_kV_x, am_kI_i, am_nI_i, am_kV_i, am_nV_i, ↓reduceIte, eq_self, if_true, if_false, c_in, c_tn, pn_add, pn_mul, pn_subc, pn_addm, c_le_t, c_le_f, c_lt_t, c_lt_f, c_eq_f, c_eqm, bi_z, bi_1, bi_b, bi_T, bi_F, ite_not, up_eq, up_ne, or_self, or_true, true_or, or_false, false_or, and_true, true_and, and_self, not_true_eq_false, not_false_eq_true, Bool.false_eq_true]) (fun s => by
    rw [ggR_image_1]
    simp -implicitDefEqProofs (disch := (first | omega | assumption | exact am_isS_3 | exact am_isS_25 | exact am_isX_356 | exact am_isX_359)) only [ggR_image_0, ggR_image_2, ggR_image_3, am_kI_x, am_kV_x, am_kI_i, am_nI_i, am_kV_i, am_nV_i, ↓reduceIte, eq_self, if_true, if_false, c_in, c_tn, pn_add, pn_mul, pn_subc, pn_addm, c_le_t, c_le_f, c_lt_t, c_lt_f, c_eq_f, c_eqm, bi_z, bi_1, bi_b, bi_T, bi_F, ite_not, up_eq, up_ne, or_self, or_true, true_or, or_false, false_or, and_true, true_and, and_self, not_true_eq_false, not_false_eq_true, Bool.false_eq_true]) 1264 0 (h.2 375) (by omega)
  have es : cw (am_up h 373 0 (Int32.ofNat 0)) 375 (h.2 375) = am_up h 373 0 (Int32.ofNat 0) := by
    have := cw_self (h := am_up h 373 0 (Int32.ofNat 0)) (o := 375)
    rw [up_o (by omega)] at this
    exact this
  rw [es] at this
  rw [uR_image, ggR_image_0]
  exact this
/-- both keep an image: nothing is answered -/
theorem T_image (d : Nat) (hC hR : am_H) (J : J2 hC hR) : ∃ hC' hR', J2 hC' hR' ∧ hC'.1 = hC.1 ∧ hR'.1 = hR.1 ∧ am_cl (d + 120) qF_image [.ref 0] hC = some (.inl none, hC') ∧ am_cl (d + 120) qR_image [.ref 373] hR = some (.inl none, hR') := by
  obtain ⟨⟨N, G, L⟩, jt, jf, ji, jp, jk⟩ := J
  obtain ⟨R, okt, okc, okk, RL⟩ := id L
  have hN := R.1
  obtain ⟨h1, a1, a2, a3, a4⟩ := copy_rel (o := 47) (o' := 3) am_isS_47 am_isS_3 (by omega) (d + 117) hC
  have B : lb h1 335 := fun i hi => by rw [a3 (335 + 1) (by omega)]; exact RL.1 i hi
  obtain ⟨h2, b1, b2, b3, b4, b5⟩ := xL_cp_349_335 (d + 118) h1 B
  have f : ∀ p, p < 47 ∨ 69 ≤ p → (p < 349 ∨ 354 ≤ p) → h2.2 p = hC.2 p := fun p q1 q2 => by rw [b3 p (by omega), a3 p (by omega)]
  have eW : ∀ j, j < 1264 → cpy (hR.2 374) (hR.2 375) 0 1264 j = hR.2 374 j := fun j hj => by rw [cpy_in (by omega), Nat.sub_zero]
  have e374 : (am_up (cw (am_up hR 373 0 (Int32.ofNat 0)) 375 (cpy (hR.2 374) (hR.2 375) 0 1264)) 373 6 (Int32.ofNat 1)).2 374 = hR.2 374 := by rw [up_o (by omega), cw_ne (by omega), up_o (by omega)]
  have e375 : (am_up (cw (am_up hR 373 0 (Int32.ofNat 0)) 375 (cpy (hR.2 374) (hR.2 375) 0 1264)) 373 6 (Int32.ofNat 1)).2 375 = cpy (hR.2 374) (hR.2 375) 0 1264 := by rw [up_o (by omega), cw_eq]
  have e373 : ∀ i, i ≠ 6 → i ≠ 0 → (am_up (cw (am_up hR 373 0 (Int32.ofNat 0)) 375 (cpy (hR.2 374) (hR.2 375) 0 1264)) 373 6 (Int32.ofNat 1)).2 373 i = hR.2 373 i := fun i q1 q2 => by rw [up_ne (by omega), cw_ne (by omega), up_ne (by omega)]
  have eo : ∀ p, p ≠ 373 → p ≠ 375 → (am_up (cw (am_up hR 373 0 (Int32.ofNat 0)) 375 (cpy (hR.2 374) (hR.2 375) 0 1264)) 373 6 (Int32.ofNat 1)).2 p = hR.2 p := fun p q1 q2 => by rw [up_o q1, cw_ne q2, up_o q1]
  refine ⟨am_up h2 0 13 (Int32.ofNat 1), am_up (cw (am_up hR 373 0 (Int32.ofNat 0)) 375 (cpy (hR.2 374) (hR.2 375) 0 1264)) 373 6 (Int32.ofNat 1), ⟨⟨N, G, ?_⟩, ?_, ?_, ?_, ?_, ?_⟩, ?_, rfl, ?_, rR_image _ _⟩
  · exact L.of (fun p q1 q2 => by rw [up_o (by omega), f p (by omega) (by omega)]) (fun p q1 q2 => by rw [up_o (by omega), f p (by omega) (by omega)]) (fun j _ => by rw [e374])
  · exact jt.of (by rw [up_o (by omega), f 1 (by omega) (by omega)]) (by rw [up_o (by omega), f 2 (by omega) (by omega)]) (e373 9 (by omega) (by omega)) (eo 379 (by omega) (by omega))
  · rw [up_ne (by omega), f 0 (by omega) (by omega), e373 14 (by omega) (by omega)]; exact jf
  · right
    refine ⟨up_eq rfl rfl, up_eq rfl rfl, ?_, ?_⟩
    · rw [e375]
      have q : stOK h1 47 (hR.2 374) := ⟨N, G, a4 _ _ _ R, okt, okc, okk⟩
      exact q.of (fun p q1 q2 => by rw [up_o (by omega), b3 p (by omega)]) (fun j hj => eW j (by omega))
    · rw [e375]
      have q := b5 (hR.2 374) (RL.of (fun p q1 q2 => a3 p (by omega)) rfl (fun _ _ _ => rfl))
      exact q.of (fun p q1 q2 => up_o (by omega)) (eW 2 (by omega)) (fun j q1 q2 => eW j q2)
  · exact jp.of (by rw [up_o (by omega), f 69 (by omega) (by omega)]) (fun p q1 q2 => by rw [up_o (by omega), f p (by omega) (by omega)]) (e373 7 (by omega) (by omega)) (eo 378 (by omega) (by omega)) (by rw [e374])
  · exact jk.of (by rw [up_o (by omega), f 362 (by omega) (by omega)]) (by rw [up_o (by omega), f 363 (by omega) (by omega)]) (by rw [up_o (by omega), f 343 (by omega) (by omega)])
  · show h2.1 = hC.1
    rw [b2, a2]
  · simp -implicitDefEqProofs (disch := (first | omega | assumption | exact am_isS_3 | exact am_isS_25 | exact am_isX_356 | exact am_isX_359)) only [uF_image, ggF_image_0, ccF_image_0_2, ccF_image_0_1, a1, b1, am_kI_x, am_kV_x, am_kI_i, am_nI_i, am_kV_i, am_nV_i, ↓reduceIte, eq_self, if_true, if_false, c_in, c_tn, pn_add, pn_mul, pn_subc, pn_addm, c_le_t, c_le_f, c_lt_t, c_lt_f, c_eq_f, c_eqm, bi_z, bi_1, bi_b, bi_T, bi_F, ite_not, up_eq, up_ne, or_self, or_true, true_or, or_false, false_or, and_true, true_and, and_self, not_true_eq_false, not_false_eq_true, Bool.false_eq_true]
theorem xP_forget (d : Nat) (h : am_H) : am_cl (d + 1) qP_forget [.ref 69] h = some (.inl none, am_up h 69 2 (Int32.ofNat 0)) := by simp -implicitDefEqProofs (disch := (first | omega | assumption | exact am_isS_3 | exact am_isS_25 | exact am_isX_356 | exact am_isX_359)) only [uP_forget, ggP_forget_0, am_kI_x, am_kV_x, am_kI_i, am_nI_i, am_kV_i, am_nV_i, ↓reduceIte, eq_self, if_true, if_false, c_in, c_tn, pn_add, pn_mul, pn_subc, pn_addm, c_le_t, c_le_f, c_lt_t, c_lt_f, c_eq_f, c_eqm, bi_z, bi_1, bi_b, bi_T, bi_F, ite_not, up_eq, up_ne, or_self, or_true, true_or, or_false, false_or, and_true, true_and, and_self, not_true_eq_false, not_false_eq_true, Bool.false_eq_true]
theorem T_back : Ans qF_back [.ref 0] qR_back [.ref 373] := by
  intro d hC hR J
  have J0 := J.thr (Int32.ofNat 0)
  obtain ⟨⟨N, G, L⟩, jt, jf, ji, jp, jk⟩ := J
  obtain ⟨R, okt, okc, okk, RL⟩ := id L
  rcases id ji with ⟨i1, i2⟩ | ⟨i1, i2, i3, i4⟩
  · refine ⟨(Int32.ofNat 0), hC, am_up hR 373 0 (Int32.ofNat 0), J0, rfl, rfl, up_eq rfl rfl, ?_, ?_⟩
    · simp -implicitDefEqProofs (disch := (first | omega | assumption | exact am_isS_3 | exact am_isS_25 | exact am_isX_356 | exact am_isX_359)) only [uF_back, ggF_back_0, ggF_back_1, ggF_back_2, ccF_back_2_3, ccF_back_2_2, ccF_back_2_1, i1, am_kI_x, am_kV_x, am_kI_i, am_nI_i, am_kV_i, am_nV_i, ↓reduceIte, eq_self, if_true, if_false, c_in, c_tn, pn_add, pn_mul, pn_subc, pn_addm, c_le_t, c_le_f, c_lt_t, c_lt_f, c_eq_f, c_eqm, bi_z, bi_1, bi_b, bi_T, bi_F, ite_not, up_eq, up_ne, or_self, or_true, true_or, or_false, false_or, and_true, true_and, and_self, not_true_eq_false, not_false_eq_true, Bool.false_eq_true]
    · simp -implicitDefEqProofs (disch := (first | omega | assumption | exact am_isS_3 | exact am_isS_25 | exact am_isX_356 | exact am_isX_359)) only [uR_back, ggR_back_0, ggR_back_1, ggR_back_2, ggR_back_4, ggR_back_5, i2, am_kI_x, am_kV_x, am_kI_i, am_nI_i, am_kV_i, am_nV_i, ↓reduceIte, eq_self, if_true, if_false, c_in, c_tn, pn_add, pn_mul, pn_subc, pn_addm, c_le_t, c_le_f, c_lt_t, c_lt_f, c_eq_f, c_eqm, bi_z, bi_1, bi_b, bi_T, bi_F, ite_not, up_eq, up_ne, or_self, or_true, true_or, or_false, false_or, and_true, true_and, and_self, not_true_eq_false, not_false_eq_true, Bool.false_eq_true]
  · obtain ⟨N1, G1, R1, okt1, okc1, okk1⟩ := i3
    have hN1 := R1.1
    obtain ⟨h1, a1, a2, a3, a4⟩ := copy_rel (o := 3) (o' := 47) am_isS_3 am_isS_47 (by omega) (d + 117) hC
    have B : lb h1 349 := fun i hi => by rw [a3 (349 + 1) (by omega)]; exact i4.1 i hi
    obtain ⟨h2, b1, b2, b3, b4, b5⟩ := xL_cp_335_349 (d + 118) h1 B
    have f : ∀ p, p < 3 ∨ 25 ≤ p → (p < 335 ∨ 340 ≤ p) → h2.2 p = hC.2 p := fun p q1 q2 => by rw [b3 p (by omega), a3 p (by omega)]
    have l := lp (Φ := am_cl (d + 119)) (q := qR_back) (b := 3) (N := 1264) (L := fun i _ => [.ref 373, .int (Int32.ofNat i)]) (H := fun s => cw (am_up hR 373 0 (Int32.ofNat 0)) 374 s) (f := fun i s => pu s i (hR.2 375 i)) (R := fun s => some (.inl (some ((Int32.ofNat 1))), am_up (cw (am_up hR 373 0 (Int32.ofNat 0)) 374 s) 373 7 (Int32.ofNat 0))) (fun i s hi => by
      rw [ggR_back_3]
      simp -implicitDefEqProofs (disch := (first | omega | assumption | exact am_isS_3 | exact am_isS_25 | exact am_isX_356 | exact am_isX_359)) only [ggR_back_0, ggR_back_1, ggR_back_2, ggR_back_4, ggR_back_5, cw_up, cw_ne, up_o, am_kI_x, am_kV_x, am_kI_i, am_nI_i, am_kV_i, am_nV_i, ↓reduceIte, eq_self, if_true, if_false, c_in, c_tn, pn_add, pn_mul, pn_subc, pn_addm, c_le_t, c_le_f, c_lt_t, c_lt_f, c_eq_f, c_eqm, bi_z, bi_1, bi_b, bi_T, bi_F, ite_not, up_eq, up_ne, or_self, or_true, true_or, or_false, false_or, and_true, true_and, and_self, not_true_eq_false, not_false_eq_true, Bool.false_eq_true]) (fun s => by
      rw [ggR_back_3]
      simp -implicitDefEqProofs (disch := (first | omega | assumption | exact am_isS_3 | exact am_isS_25 | exact am_isX_356 | exact am_isX_359)) only [ggR_back_0, ggR_back_1, ggR_back_2, ggR_back_4, ggR_back_5, am_kI_x, am_kV_x, am_kI_i, am_nI_i, am_kV_i, am_nV_i, ↓reduceIte, eq_self, if_true, if_false, c_in, c_tn, pn_add, pn_mul, pn_subc, pn_addm, c_le_t, c_le_f, c_lt_t, c_lt_f, c_eq_f, c_eqm, bi_z, bi_1, bi_b, bi_T, bi_F, ite_not, up_eq, up_ne, or_self, or_true, true_or, or_false, false_or, and_true, true_and, and_self, not_true_eq_false, not_false_eq_true, Bool.false_eq_true]) 1264 0 (hR.2 374) (by omega)
    rw [itr_cpy0] at l
    have es : cw (am_up hR 373 0 (Int32.ofNat 0)) 374 (hR.2 374) = am_up hR 373 0 (Int32.ofNat 0) := by
      have := cw_self (h := am_up hR 373 0 (Int32.ofNat 0)) (o := 374)
      rw [up_o (by omega)] at this
      exact this
    rw [es] at l
    have eW : ∀ j, j < 1264 → cpy (hR.2 375) (hR.2 374) 0 1264 j = hR.2 375 j := fun j hj => by rw [cpy_in (by omega), Nat.sub_zero]
    have e374 : (am_up (cw (am_up hR 373 0 (Int32.ofNat 0)) 374 (cpy (hR.2 375) (hR.2 374) 0 1264)) 373 7 (Int32.ofNat 0)).2 374 = cpy (hR.2 375) (hR.2 374) 0 1264 := by rw [up_o (by omega), cw_eq]
    have e373 : ∀ i, i ≠ 7 → i ≠ 0 → (am_up (cw (am_up hR 373 0 (Int32.ofNat 0)) 374 (cpy (hR.2 375) (hR.2 374) 0 1264)) 373 7 (Int32.ofNat 0)).2 373 i = hR.2 373 i := fun i q1 q2 => by rw [up_ne (by omega), cw_ne (by omega), up_ne (by omega)]
    have eo : ∀ p, p ≠ 373 → p ≠ 374 → (am_up (cw (am_up hR 373 0 (Int32.ofNat 0)) 374 (cpy (hR.2 375) (hR.2 374) 0 1264)) 373 7 (Int32.ofNat 0)).2 p = hR.2 p := fun p q1 q2 => by rw [up_o q1, cw_ne q2, up_o q1]
    have s0 : ∃ s, s < 12 ∧ hC.2 69 1 = (Int32.ofNat s) := by
      obtain ⟨m, s, hm, hs, p1, p2, p3, pp⟩ := jp
      exact ⟨s, hs, p2⟩
    obtain ⟨s, hs, es1⟩ := s0
    refine ⟨(Int32.ofNat 1), am_up h2 69 2 (Int32.ofNat 0), am_up (cw (am_up hR 373 0 (Int32.ofNat 0)) 374 (cpy (hR.2 375) (hR.2 374) 0 1264)) 373 7 (Int32.ofNat 0), ⟨⟨N1, G1, ?_, ?_, ?_, ?_, ?_⟩, ?_, ?_, ?_, ?_, ?_⟩, ?_, rfl, ?_, ?_, ?_⟩
    · rw [e374]; exact ((a4 _ _ _ R1).frame (fun p q1 q2 => by rw [up_o (by omega), b3 p (by omega)])).row (fun j hj => eW j (by omega))
    · rw [e374]; exact okt1.of (fun j q1 q2 => eW j (by omega))
    · rw [e374]; exact okc1.of hN1 (fun j q1 q2 => eW j (by omega))
    · rw [e374]; exact okk1.of hN1 (fun j q1 q2 => eW j (by omega))
    · rw [e374]
      have q := b5 (hR.2 375) (i4.of (fun p q1 q2 => a3 p (by omega)) rfl (fun _ _ _ => rfl))
      exact q.of (fun p q1 q2 => up_o (by omega)) (eW 2 (by omega)) (fun j q1 q2 => eW j q2)
    · exact jt.of (by rw [up_o (by omega), f 1 (by omega) (by omega)]) (by rw [up_o (by omega), f 2 (by omega) (by omega)]) (e373 9 (by omega) (by omega)) (eo 379 (by omega) (by omega))
    · rw [up_o (by omega), f 0 (by omega) (by omega), e373 14 (by omega) (by omega)]; exact jf
    · exact ji.of (by rw [up_o (by omega), f 0 (by omega) (by omega)]) (fun p q1 q2 => by rw [up_o (by omega), f p (by omega) (by omega)]) (fun p q1 q2 => by rw [up_o (by omega), f p (by omega) (by omega)]) (e373 6 (by omega) (by omega)) (eo 375 (by omega) (by omega))
    · refine ⟨0, s, by omega, hs, up_eq rfl rfl, ?_, up_eq rfl rfl, fun i hi => by omega⟩
      rw [up_ne (by omega), f 69 (by omega) (by omega)]; exact es1
    · exact jk.of (by rw [up_o (by omega), f 362 (by omega) (by omega)]) (by rw [up_o (by omega), f 363 (by omega) (by omega)]) (by rw [up_o (by omega), f 343 (by omega) (by omega)])
    · show h2.1 = hC.1
      rw [b2, a2]
    · rw [up_ne (by omega), cw_ne (by omega)]; exact up_eq rfl rfl
    · simp -implicitDefEqProofs (disch := (first | omega | assumption | exact am_isS_3 | exact am_isS_25 | exact am_isX_356 | exact am_isX_359)) only [uF_back, ggF_back_0, ggF_back_1, ggF_back_2, ccF_back_2_3, ccF_back_2_2, ccF_back_2_1, i1, a1, b1, xP_forget, am_kI_x, am_kV_x, am_kI_i, am_nI_i, am_kV_i, am_nV_i, ↓reduceIte, eq_self, if_true, if_false, c_in, c_tn, pn_add, pn_mul, pn_subc, pn_addm, c_le_t, c_le_f, c_lt_t, c_lt_f, c_eq_f, c_eqm, bi_z, bi_1, bi_b, bi_T, bi_F, ite_not, up_eq, up_ne, or_self, or_true, true_or, or_false, false_or, and_true, true_and, and_self, not_true_eq_false, not_false_eq_true, Bool.false_eq_true]
    · rw [← l]
      simp -implicitDefEqProofs (disch := (first | omega | assumption | exact am_isS_3 | exact am_isS_25 | exact am_isX_356 | exact am_isX_359)) only [uR_back, ggR_back_0, ggR_back_1, ggR_back_2, ggR_back_4, ggR_back_5, i2, am_kI_x, am_kV_x, am_kI_i, am_nI_i, am_kV_i, am_nV_i, ↓reduceIte, eq_self, if_true, if_false, c_in, c_tn, pn_add, pn_mul, pn_subc, pn_addm, c_le_t, c_le_f, c_lt_t, c_lt_f, c_eq_f, c_eqm, bi_z, bi_1, bi_b, bi_T, bi_F, ite_not, up_eq, up_ne, or_self, or_true, true_or, or_false, false_or, and_true, true_and, and_self, not_true_eq_false, not_false_eq_true, Bool.false_eq_true]
