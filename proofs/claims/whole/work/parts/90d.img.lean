/-! undo, image, back -/
theorem xP_bringBack0 {h : am_H} (e : h.2 69 2 = (Int32.ofNat 0)) (d : Nat) : am_cl (d + 3) qP_bringBack [.ref 69, .ref 3] h = some (.inl (some ((Int32.ofNat 0))), h) := by simp -implicitDefEqProofs (disch := (first | omega | assumption | exact am_isS_3 | exact am_isS_25 | exact am_isX_356 | exact am_isX_359)) only [uP_bringBack, ggP_bringBack_0, ggP_bringBack_1, ggP_bringBack_2, ccP_bringBack_2_1, e, am_kI_x, am_kV_x, am_kI_i, am_nI_i, am_kV_i, am_nV_i, ↓reduceIte, eq_self, if_true, if_false, c_in, c_tn, pn_add, pn_mul, pn_subc, pn_addm, c_le_t, c_le_f, c_lt_t, c_lt_f, c_eq_f, c_eqm, bi_z, bi_1, bi_b, bi_T, bi_F, ite_not, up_eq, up_ne, or_self, or_true, true_or, or_false, false_or, and_true, true_and, and_self, not_true_eq_false, not_false_eq_true, Bool.false_eq_true]
theorem T_undo : Ans qF_undo [.ref 0] qR_undo [.ref 373] := by
  intro d hC hR J
  have J0 := J.thr (Int32.ofNat 0)
  obtain ⟨⟨N, G, L⟩, jt, jf, ji, ⟨m, s, hm, hs, p1, p2, p3, pp⟩, jk⟩ := id J
  obtain ⟨R, okt, okc, okk, RL⟩ := id L
  by_cases h0 : m = 0
  · subst h0
    refine ⟨(Int32.ofNat 0), hC, am_up hR 373 0 (Int32.ofNat 0), J0, rfl, rfl, up_eq rfl rfl, ?_, ?_⟩
    · simp -implicitDefEqProofs (disch := (first | omega | assumption | exact am_isS_3 | exact am_isS_25 | exact am_isX_356 | exact am_isX_359)) only [uF_undo, ggF_undo_0, ccF_undo_0_1, xP_bringBack0 p1, am_kI_x, am_kV_x, am_kI_i, am_nI_i, am_kV_i, am_nV_i, ↓reduceIte, eq_self, if_true, if_false, c_in, c_tn, pn_add, pn_mul, pn_subc, pn_addm, c_le_t, c_le_f, c_lt_t, c_lt_f, c_eq_f, c_eqm, bi_z, bi_1, bi_b, bi_T, bi_F, ite_not, up_eq, up_ne, or_self, or_true, true_or, or_false, false_or, and_true, true_and, and_self, not_true_eq_false, not_false_eq_true, Bool.false_eq_true]
    · simp -implicitDefEqProofs (disch := (first | omega | assumption | exact am_isS_3 | exact am_isS_25 | exact am_isX_356 | exact am_isX_359)) only [uR_undo, ggR_undo_0, ggR_undo_1, ggR_undo_2, ggR_undo_4, ggR_undo_5, p3, am_kI_x, am_kV_x, am_kI_i, am_nI_i, am_kV_i, am_nV_i, ↓reduceIte, eq_self, if_true, if_false, c_in, c_tn, pn_add, pn_mul, pn_subc, pn_addm, c_le_t, c_le_f, c_lt_t, c_lt_f, c_eq_f, c_eqm, bi_z, bi_1, bi_b, bi_T, bi_F, ite_not, up_eq, up_ne, or_self, or_true, true_or, or_false, false_or, and_true, true_and, and_self, not_true_eq_false, not_false_eq_true, Bool.false_eq_true]
  · obtain ⟨q1, q2⟩ := pp (m - 1) (by omega)
    obtain ⟨N1, G1, R1, okt1, okc1, okk1⟩ := q1
    have hml : (s + (m - 1)) % 12 < 12 := Nat.mod_lt _ (by omega)
    obtain ⟨h1, a1, a2, a3, a4⟩ := copy_rel (o := 3) (o' := 70 + 1 + 22 * ((s + (m - 1)) % 12)) am_isS_3 (isS_past hml) (by omega) (d + 116) (am_up hC 69 2 (Int32.ofNat (m - 1)))
    have k7 := (isS_past hml).1
    have R2 : RelS h1 3 (fun j => hR.2 378 (415 * (m - 1) + j)) N1 G1 := a4 _ _ _ (R1.frame (fun p z1 z2 => up_o (by omega)))
    have l := lp (Φ := am_cl (d + 119)) (q := qR_undo) (b := 3) (N := 415) (L := fun i _ => [.ref 373, .int (Int32.ofNat i)]) (H := fun f => cw (am_up (am_up hR 373 0 (Int32.ofNat 0)) 373 7 (Int32.ofNat (m - 1))) 374 f) (f := fun i f => pu f i (hR.2 378 (415 * (m - 1) + i))) (R := fun f => some (.inl (some ((Int32.ofNat 1))), cw (am_up (am_up hR 373 0 (Int32.ofNat 0)) 373 7 (Int32.ofNat (m - 1))) 374 f)) (fun i f hi => by
      rw [ggR_undo_3]
      simp -implicitDefEqProofs (disch := (first | omega | assumption | exact am_isS_3 | exact am_isS_25 | exact am_isX_356 | exact am_isX_359)) only [ggR_undo_0, ggR_undo_1, ggR_undo_2, ggR_undo_4, ggR_undo_5, cw_up, cw_ne, up_o, am_kI_x, am_kV_x, am_kI_i, am_nI_i, am_kV_i, am_nV_i, ↓reduceIte, eq_self, if_true, if_false, c_in, c_tn, pn_add, pn_mul, pn_subc, pn_addm, c_le_t, c_le_f, c_lt_t, c_lt_f, c_eq_f, c_eqm, bi_z, bi_1, bi_b, bi_T, bi_F, ite_not, up_eq, up_ne, or_self, or_true, true_or, or_false, false_or, and_true, true_and, and_self, not_true_eq_false, not_false_eq_true, Bool.false_eq_true]) (fun f => by
      rw [ggR_undo_3]
      simp -implicitDefEqProofs (disch := (first | omega | assumption | exact am_isS_3 | exact am_isS_25 | exact am_isX_356 | exact am_isX_359)) only [ggR_undo_0, ggR_undo_1, ggR_undo_2, ggR_undo_4, ggR_undo_5, am_kI_x, am_kV_x, am_kI_i, am_nI_i, am_kV_i, am_nV_i, ↓reduceIte, eq_self, if_true, if_false, c_in, c_tn, pn_add, pn_mul, pn_subc, pn_addm, c_le_t, c_le_f, c_lt_t, c_lt_f, c_eq_f, c_eqm, bi_z, bi_1, bi_b, bi_T, bi_F, ite_not, up_eq, up_ne, or_self, or_true, true_or, or_false, false_or, and_true, true_and, and_self, not_true_eq_false, not_false_eq_true, Bool.false_eq_true]) 415 0 (hR.2 374) (by omega)
    rw [itr_cpy0] at l
    have es : cw (am_up (am_up hR 373 0 (Int32.ofNat 0)) 373 7 (Int32.ofNat (m - 1))) 374 (hR.2 374) = am_up (am_up hR 373 0 (Int32.ofNat 0)) 373 7 (Int32.ofNat (m - 1)) := by
      have := cw_self (h := am_up (am_up hR 373 0 (Int32.ofNat 0)) 373 7 (Int32.ofNat (m - 1))) (o := 374)
      rw [up_o (by omega), up_o (by omega)] at this
      exact this
    rw [es] at l
    have eW : ∀ j, j < 415 → cpy (fun i => hR.2 378 (415 * (m - 1) + i)) (hR.2 374) 0 415 j = hR.2 378 (415 * (m - 1) + j) := fun j hj => by rw [cpy_in (by omega), Nat.sub_zero]
    have eU : ∀ j, 415 ≤ j → cpy (fun i => hR.2 378 (415 * (m - 1) + i)) (hR.2 374) 0 415 j = hR.2 374 j := fun j hj => cpy_out (by omega)
    have hN1 := R1.1
    have f69 : h1.2 69 = (am_up hC 69 2 (Int32.ofNat (m - 1))).2 69 := a3 69 (by omega)
    have w2 : cpy (fun i => hR.2 378 (415 * (m - 1) + i)) (hR.2 374) 0 415 2 = hR.2 374 2 := by rw [eW 2 (by omega)]; exact q2
    have fo : ∀ p, p < 3 ∨ 25 ≤ p → p ≠ 69 → h1.2 p = hC.2 p := fun p z1 z2 => by rw [a3 p (by omega), up_o z2]
    refine ⟨(Int32.ofNat 1), h1, cw (am_up (am_up hR 373 0 (Int32.ofNat 0)) 373 7 (Int32.ofNat (m - 1))) 374 (cpy (fun i => hR.2 378 (415 * (m - 1) + i)) (hR.2 374) 0 415), ⟨⟨N1, G1, ?_, ?_, ?_, ?_, ?_⟩, ?_, ?_, ?_, ?_, ?_⟩, a2, rfl, ?_, ?_, ?_⟩
    · rw [cw_eq]; exact R2.row eW
    · rw [cw_eq]; exact okt1.of (fun j z1 z2 => eW j (by omega))
    · rw [cw_eq]; exact okc1.of hN1 (fun j z1 z2 => eW j (by omega))
    · rw [cw_eq]; exact okk1.of hN1 (fun j z1 z2 => eW j (by omega))
    · rw [cw_eq]; exact RL.of (fun p z1 z2 => fo p (by omega) (by omega)) w2 (fun j z1 z2 => eU j z1)
    · exact jt.of (by rw [fo 1 (by omega) (by omega)]) (fo 2 (by omega) (by omega)) (by rw [cw_ne (by omega), up_ne (by omega), up_ne (by omega)]) (by rw [cw_ne (by omega), up_o (by omega), up_o (by omega)])
    · rw [fo 0 (by omega) (by omega), cw_ne (by omega), up_ne (by omega), up_ne (by omega)]; exact jf
    · exact ji.of (by rw [fo 0 (by omega) (by omega)]) (fun p z1 z2 => fo p (by omega) (by omega)) (fun p z1 z2 => fo p (by omega) (by omega)) (by rw [cw_ne (by omega), up_ne (by omega), up_ne (by omega)]) (by rw [cw_ne (by omega), up_o (by omega), up_o (by omega)])
    · refine ⟨m - 1, s, by omega, hs, ?_, ?_, ?_, fun i hi => ?_⟩
      · rw [f69]; exact up_eq rfl rfl
      · rw [f69, up_ne (by omega)]; exact p2
      · rw [cw_ne (by omega)]; exact up_eq rfl rfl
      · obtain ⟨z1, z2⟩ := pp i (by omega)
        have hml2 : (s + i) % 12 < 12 := Nat.mod_lt _ (by omega)
        rw [cw_ne (by omega), up_o (by omega), up_o (by omega), cw_eq, w2]
        exact ⟨z1.of (fun p y1 y2 => fo p (by omega) (by omega)) (fun j _ => rfl), z2⟩
    · exact jk.of (by rw [fo 362 (by omega) (by omega)]) (fo 363 (by omega) (by omega)) (fo 343 (by omega) (by omega))
    · rw [cw_ne (by omega), up_ne (by omega)]; exact up_eq rfl rfl
    · simp -implicitDefEqProofs (disch := (first | omega | assumption | exact am_isS_3 | exact am_isS_25 | exact am_isX_356 | exact am_isX_359)) only [uF_undo, ggF_undo_0, ccF_undo_0_1, ggP_bringBack_0, ggP_bringBack_1, ggP_bringBack_2, ccP_bringBack_2_1, uP_bringBack, p1, p2, pn_mod, k7, a1, am_kI_x, am_kV_x, am_kI_i, am_nI_i, am_kV_i, am_nV_i, ↓reduceIte, eq_self, if_true, if_false, c_in, c_tn, pn_add, pn_mul, pn_subc, pn_addm, c_le_t, c_le_f, c_lt_t, c_lt_f, c_eq_f, c_eqm, bi_z, bi_1, bi_b, bi_T, bi_F, ite_not, up_eq, up_ne, or_self, or_true, true_or, or_false, false_or, and_true, true_and, and_self, not_true_eq_false, not_false_eq_true, Bool.false_eq_true]
    · rw [← l]
      simp -implicitDefEqProofs (disch := (first | omega | assumption | exact am_isS_3 | exact am_isS_25 | exact am_isX_356 | exact am_isX_359)) only [uR_undo, ggR_undo_0, ggR_undo_1, ggR_undo_2, ggR_undo_4, ggR_undo_5, p3, am_kI_x, am_kV_x, am_kI_i, am_nI_i, am_kV_i, am_nV_i, ↓reduceIte, eq_self, if_true, if_false, c_in, c_tn, pn_add, pn_mul, pn_subc, pn_addm, c_le_t, c_le_f, c_lt_t, c_lt_f, c_eq_f, c_eqm, bi_z, bi_1, bi_b, bi_T, bi_F, ite_not, up_eq, up_ne, or_self, or_true, true_or, or_false, false_or, and_true, true_and, and_self, not_true_eq_false, not_false_eq_true, Bool.false_eq_true]
