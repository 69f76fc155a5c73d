/-! calls that only look: best ones, counts -/
theorem T_oldest : Ans qF_oldest [.ref 0] qR_oldest [.ref 373] := by
  intro d hC hR J
  have J0 := J.thr (Int32.ofNat 0)
  obtain ⟨⟨N, G, R, okt, okc, okk, RL⟩, -⟩ := J
  have hN := R.1
  have r3 := R.2.2.1
  have r4 := R.2.2.2.1
  have r12 := R.2.2.2.2.2.2.2.2.2.2.2.1
  obtain ⟨v, e1, e2⟩ := lpp (Φ := am_cl (d + 119)) (Ψ := am_cl (d + 119)) (q := qF_oldest) (b := 1) (q' := qR_oldest) (b' := 1) (N := N) (h := hC) (h' := am_up hR 373 0 (Int32.ofNat 0)) (L := fun c (s : Int32 × Int32 × Value) => [.ref 0, .int s.1, .int s.2.1, .int (Int32.ofNat c), s.2.2]) (M := fun c (t : Int32) => [.ref 373, .int t, .int (Int32.ofNat c)]) (P := fun c s t => s.1 = t ∧ (t = -1 ∧ s.2.1 = -1 ∨ ∃ b, b < N ∧ t = (Int32.ofNat b) ∧ s.2.1 = hR.2 374 (43 + 9 * b + 0)))
    (fun c s t hc p => by
      obtain ⟨s1, s2, s3⟩ := s
      obtain ⟨p1, p2⟩ := p
      simp only at p1 p2
      subst p1
      obtain ⟨⟨a, ha, ea⟩, -, -, -, -, -, -, ⟨w, hw, ew⟩, -⟩ := okc c hc
      by_cases hw1 : w = 1
      · subst hw1
        refine ⟨(s1, s2, .int (Int32.ofNat a)), s1, ⟨rfl, p2⟩, ?_, ?_⟩
        · rw [ggF_oldest_1]
          simp -implicitDefEqProofs (disch := (first | omega | assumption | exact am_isS_3 | exact am_isS_25 | exact am_isX_356 | exact am_isX_359)) only [ggF_oldest_0, ggF_oldest_2, ggF_oldest_3, ggF_oldest_4, ggF_oldest_5, ggF_oldest_6, r4, r12, ew, ea, am_kI_x, am_kV_x, am_kI_i, am_nI_i, am_kV_i, am_nV_i, ↓reduceIte, eq_self, if_true, if_false, c_in, c_tn, pn_add, pn_mul, pn_subc, pn_addm, c_le_t, c_le_f, c_lt_t, c_lt_f, c_eq_f, c_eqm, bi_z, bi_1, bi_b, bi_T, bi_F, ite_not, up_eq, up_ne, or_self, or_true, true_or, or_false, false_or, and_true, true_and, and_self, not_true_eq_false, not_false_eq_true, Bool.false_eq_true]
        · rw [ggR_oldest_1]
          simp -implicitDefEqProofs (disch := (first | omega | assumption | exact am_isS_3 | exact am_isS_25 | exact am_isX_356 | exact am_isX_359)) only [ggR_oldest_0, ggR_oldest_2, ggR_oldest_3, ggR_oldest_4, ggR_oldest_5, ggR_oldest_6, ggR_oldest_7, ccR_oldest_1_1, ccR_oldest_2_1, ccR_oldest_4_2, ccR_oldest_4_1, rR_children, rR_isOpened, up_o, r3, ew, am_kI_x, am_kV_x, am_kI_i, am_nI_i, am_kV_i, am_nV_i, ↓reduceIte, eq_self, if_true, if_false, c_in, c_tn, pn_add, pn_mul, pn_subc, pn_addm, c_le_t, c_le_f, c_lt_t, c_lt_f, c_eq_f, c_eqm, bi_z, bi_1, bi_b, bi_T, bi_F, ite_not, up_eq, up_ne, or_self, or_true, true_or, or_false, false_or, and_true, true_and, and_self, not_true_eq_false, not_false_eq_true, Bool.false_eq_true]
      · have w0 : w = 0 := by omega
        subst w0
        rcases p2 with ⟨rfl, rfl⟩ | ⟨b, hb, rfl, rfl⟩
        · have hm : ¬ ((Int32.ofNat a) ≤ (-1 : Int32)) := by
            rw [Int32.le_iff_toInt_le, pn_toInt (by omega)]
            have : ((-1 : Int32)).toInt = -1 := by decide
            omega
          refine ⟨((Int32.ofNat c), (Int32.ofNat a), .int (Int32.ofNat a)), (Int32.ofNat c), ⟨rfl, Or.inr ⟨c, hc, rfl, ea.symm⟩⟩, ?_, ?_⟩
          · rw [ggF_oldest_1]
            simp -implicitDefEqProofs (disch := (first | omega | assumption | exact am_isS_3 | exact am_isS_25 | exact am_isX_356 | exact am_isX_359)) only [ggF_oldest_0, ggF_oldest_2, ggF_oldest_3, ggF_oldest_4, ggF_oldest_5, ggF_oldest_6, r4, r12, ew, ea, hm, am_kI_x, am_kV_x, am_kI_i, am_nI_i, am_kV_i, am_nV_i, ↓reduceIte, eq_self, if_true, if_false, c_in, c_tn, pn_add, pn_mul, pn_subc, pn_addm, c_le_t, c_le_f, c_lt_t, c_lt_f, c_eq_f, c_eqm, bi_z, bi_1, bi_b, bi_T, bi_F, ite_not, up_eq, up_ne, or_self, or_true, true_or, or_false, false_or, and_true, true_and, and_self, not_true_eq_false, not_false_eq_true, Bool.false_eq_true]
          · rw [ggR_oldest_1]
            simp -implicitDefEqProofs (disch := (first | omega | assumption | exact am_isS_3 | exact am_isS_25 | exact am_isX_356 | exact am_isX_359)) only [ggR_oldest_0, ggR_oldest_2, ggR_oldest_3, ggR_oldest_4, ggR_oldest_5, ggR_oldest_6, ggR_oldest_7, ccR_oldest_1_1, ccR_oldest_2_1, ccR_oldest_4_2, ccR_oldest_4_1, rR_children, rR_isOpened, up_o, r3, ew, am_kI_x, am_kV_x, am_kI_i, am_nI_i, am_kV_i, am_nV_i, ↓reduceIte, eq_self, if_true, if_false, c_in, c_tn, pn_add, pn_mul, pn_subc, pn_addm, c_le_t, c_le_f, c_lt_t, c_lt_f, c_eq_f, c_eqm, bi_z, bi_1, bi_b, bi_T, bi_F, ite_not, up_eq, up_ne, or_self, or_true, true_or, or_false, false_or, and_true, true_and, and_self, not_true_eq_false, not_false_eq_true, Bool.false_eq_true]
        · by_cases hq : (Int32.ofNat a) ≤ hR.2 374 (43 + 9 * b + 0)
          · refine ⟨((Int32.ofNat b), hR.2 374 (43 + 9 * b + 0), .int (Int32.ofNat a)), (Int32.ofNat b), ⟨rfl, Or.inr ⟨b, hb, rfl, rfl⟩⟩, ?_, ?_⟩
            · rw [ggF_oldest_1]
              simp -implicitDefEqProofs (disch := (first | omega | assumption | exact am_isS_3 | exact am_isS_25 | exact am_isX_356 | exact am_isX_359)) only [ggF_oldest_0, ggF_oldest_2, ggF_oldest_3, ggF_oldest_4, ggF_oldest_5, ggF_oldest_6, r4, r12, ew, ea, hq, am_kI_x, am_kV_x, am_kI_i, am_nI_i, am_kV_i, am_nV_i, ↓reduceIte, eq_self, if_true, if_false, c_in, c_tn, pn_add, pn_mul, pn_subc, pn_addm, c_le_t, c_le_f, c_lt_t, c_lt_f, c_eq_f, c_eqm, bi_z, bi_1, bi_b, bi_T, bi_F, ite_not, up_eq, up_ne, or_self, or_true, true_or, or_false, false_or, and_true, true_and, and_self, not_true_eq_false, not_false_eq_true, Bool.false_eq_true]
            · rw [ggR_oldest_1]
              simp -implicitDefEqProofs (disch := (first | omega | assumption | exact am_isS_3 | exact am_isS_25 | exact am_isX_356 | exact am_isX_359)) only [ggR_oldest_0, ggR_oldest_2, ggR_oldest_3, ggR_oldest_4, ggR_oldest_5, ggR_oldest_6, ggR_oldest_7, ccR_oldest_1_1, ccR_oldest_2_1, ccR_oldest_4_2, ccR_oldest_4_1, rR_children, rR_isOpened, rR_of, up_o, r3, ew, ea, hq, am_kI_x, am_kV_x, am_kI_i, am_nI_i, am_kV_i, am_nV_i, ↓reduceIte, eq_self, if_true, if_false, c_in, c_tn, pn_add, pn_mul, pn_subc, pn_addm, c_le_t, c_le_f, c_lt_t, c_lt_f, c_eq_f, c_eqm, bi_z, bi_1, bi_b, bi_T, bi_F, ite_not, up_eq, up_ne, or_self, or_true, true_or, or_false, false_or, and_true, true_and, and_self, not_true_eq_false, not_false_eq_true, Bool.false_eq_true]
          · refine ⟨((Int32.ofNat c), (Int32.ofNat a), .int (Int32.ofNat a)), (Int32.ofNat c), ⟨rfl, Or.inr ⟨c, hc, rfl, ea.symm⟩⟩, ?_, ?_⟩
            · rw [ggF_oldest_1]
              simp -implicitDefEqProofs (disch := (first | omega | assumption | exact am_isS_3 | exact am_isS_25 | exact am_isX_356 | exact am_isX_359)) only [ggF_oldest_0, ggF_oldest_2, ggF_oldest_3, ggF_oldest_4, ggF_oldest_5, ggF_oldest_6, r4, r12, ew, ea, hq, am_kI_x, am_kV_x, am_kI_i, am_nI_i, am_kV_i, am_nV_i, ↓reduceIte, eq_self, if_true, if_false, c_in, c_tn, pn_add, pn_mul, pn_subc, pn_addm, c_le_t, c_le_f, c_lt_t, c_lt_f, c_eq_f, c_eqm, bi_z, bi_1, bi_b, bi_T, bi_F, ite_not, up_eq, up_ne, or_self, or_true, true_or, or_false, false_or, and_true, true_and, and_self, not_true_eq_false, not_false_eq_true, Bool.false_eq_true]
            · rw [ggR_oldest_1]
              simp -implicitDefEqProofs (disch := (first | omega | assumption | exact am_isS_3 | exact am_isS_25 | exact am_isX_356 | exact am_isX_359)) only [ggR_oldest_0, ggR_oldest_2, ggR_oldest_3, ggR_oldest_4, ggR_oldest_5, ggR_oldest_6, ggR_oldest_7, ccR_oldest_1_1, ccR_oldest_2_1, ccR_oldest_4_2, ccR_oldest_4_1, rR_children, rR_isOpened, rR_of, up_o, r3, ew, ea, hq, am_kI_x, am_kV_x, am_kI_i, am_nI_i, am_kV_i, am_nV_i, ↓reduceIte, eq_self, if_true, if_false, c_in, c_tn, pn_add, pn_mul, pn_subc, pn_addm, c_le_t, c_le_f, c_lt_t, c_lt_f, c_eq_f, c_eqm, bi_z, bi_1, bi_b, bi_T, bi_F, ite_not, up_eq, up_ne, or_self, or_true, true_or, or_false, false_or, and_true, true_and, and_self, not_true_eq_false, not_false_eq_true, Bool.false_eq_true])
    (fun s t p => by
      obtain ⟨s1, s2, s3⟩ := s
      refine ⟨t, ?_, ?_⟩
      · have p1 : s1 = t := p.1
        subst p1
        rw [ggF_oldest_1]
        simp -implicitDefEqProofs (disch := (first | omega | assumption | exact am_isS_3 | exact am_isS_25 | exact am_isX_356 | exact am_isX_359)) only [ggF_oldest_0, ggF_oldest_2, ggF_oldest_3, ggF_oldest_4, ggF_oldest_5, ggF_oldest_6, r4, am_kI_x, am_kV_x, am_kI_i, am_nI_i, am_kV_i, am_nV_i, ↓reduceIte, eq_self, if_true, if_false, c_in, c_tn, pn_add, pn_mul, pn_subc, pn_addm, c_le_t, c_le_f, c_lt_t, c_lt_f, c_eq_f, c_eqm, bi_z, bi_1, bi_b, bi_T, bi_F, ite_not, up_eq, up_ne, or_self, or_true, true_or, or_false, false_or, and_true, true_and, and_self, not_true_eq_false, not_false_eq_true, Bool.false_eq_true]
      · rw [ggR_oldest_1]
        simp -implicitDefEqProofs (disch := (first | omega | assumption | exact am_isS_3 | exact am_isS_25 | exact am_isX_356 | exact am_isX_359)) only [ggR_oldest_0, ggR_oldest_2, ggR_oldest_3, ggR_oldest_4, ggR_oldest_5, ggR_oldest_6, ggR_oldest_7, ccR_oldest_1_1, ccR_oldest_2_1, ccR_oldest_4_2, ccR_oldest_4_1, rR_children, up_o, r3, am_kI_x, am_kV_x, am_kI_i, am_nI_i, am_kV_i, am_nV_i, ↓reduceIte, eq_self, if_true, if_false, c_in, c_tn, pn_add, pn_mul, pn_subc, pn_addm, c_le_t, c_le_f, c_lt_t, c_lt_f, c_eq_f, c_eqm, bi_z, bi_1, bi_b, bi_T, bi_F, ite_not, up_eq, up_ne, or_self, or_true, true_or, or_false, false_or, and_true, true_and, and_self, not_true_eq_false, not_false_eq_true, Bool.false_eq_true]) N 0 (-1, -1, .null) (-1) (by omega) ⟨rfl, Or.inl ⟨rfl, rfl⟩⟩
  refine ⟨v, hC, am_up hR 373 0 (Int32.ofNat 0), J0, rfl, rfl, up_eq rfl rfl, ?_, ?_⟩
  · rw [uF_oldest, ggF_oldest_0]; exact e1
  · rw [uR_oldest, ggR_oldest_0]; exact e2
theorem T_richest : Ans qF_richest [.ref 0] qR_richest [.ref 373] := by
  intro d hC hR J
  have J0 := J.thr (Int32.ofNat 0)
  obtain ⟨⟨N, G, R, okt, okc, okk, RL⟩, -⟩ := J
  have hN := R.1
  have r3 := R.2.2.1
  have r4 := R.2.2.2.1
  have r11 := R.2.2.2.2.2.2.2.2.2.2.1
  have r12 := R.2.2.2.2.2.2.2.2.2.2.2.1
  have wk : ∀ c, c < N → rm (hC.2 (3 + 7 + 5) c) 9 := fun c hc => by
    rw [r12 5 c (by omega) (by omega)]
    rcases (okc c hc).2.2.2.2.2.1 with q | q
    · exact Or.inl q
    · exact Or.inr (rg_mono q (by omega))
  obtain ⟨v, e1, e2⟩ := lpp (Φ := am_cl (d + 119)) (Ψ := am_cl (d + 119)) (q := qF_richest) (b := 1) (q' := qR_richest) (b' := 1) (N := N) (h := hC) (h' := am_up hR 373 0 (Int32.ofNat 0)) (L := fun c (s : Int32 × Int32 × Value) => [.ref 0, .int s.1, .int s.2.1, .int (Int32.ofNat c), s.2.2]) (M := fun c (t : Int32) => [.ref 373, .int t, .int (Int32.ofNat c)]) (P := fun c s t => s.1 = t ∧ (t = -1 ∧ s.2.1 = -1 ∨ ∃ b k, b < N ∧ k < 8 ∧ t = (Int32.ofNat b) ∧ hR.2 374 (43 + 9 * b + 5) = (Int32.ofNat k) ∧ s.2.1 = hR.2 374 (7 + 4 * k + 3)))
    (fun c s t hc p => by
      obtain ⟨s1, s2, s3⟩ := s
      obtain ⟨p1, p2⟩ := p
      simp only at p1 p2
      subst p1
      have ew := sS_worthKept am_isS_3 (c := c) (by omega) (d + 118) (wk c hc)
      rcases (okc c hc).2.2.2.2.2.1 with hk | ⟨k, hk, ek⟩
      · rw [r12 5 c (by omega) (by omega), hk, if_pos rfl] at ew
        refine ⟨(s1, s2, .int (-1)), s1, ⟨rfl, p2⟩, ?_, ?_⟩
        · have hm : (-1 : Int32) ≤ s2 := by
            rcases p2 with ⟨-, rfl⟩ | ⟨b, k, hb, hk, -, -, rfl⟩
            · decide
            · obtain ⟨w, hw, ew⟩ := (okt.2.2.2.2.2.2 k hk).2.2.2
              rw [ew, Int32.le_iff_toInt_le, pn_toInt (by omega)]
              have : ((-1 : Int32)).toInt = -1 := by decide
              omega
          rw [ggF_richest_1]
          simp -implicitDefEqProofs (disch := (first | omega | assumption | exact am_isS_3 | exact am_isS_25 | exact am_isX_356 | exact am_isX_359)) only [ggF_richest_0, ggF_richest_2, ggF_richest_3, ggF_richest_4, ggF_richest_5, ccF_richest_2_1, r4, ew, hm, am_kI_x, am_kV_x, am_kI_i, am_nI_i, am_kV_i, am_nV_i, ↓reduceIte, eq_self, if_true, if_false, c_in, c_tn, pn_add, pn_mul, pn_subc, pn_addm, c_le_t, c_le_f, c_lt_t, c_lt_f, c_eq_f, c_eqm, bi_z, bi_1, bi_b, bi_T, bi_F, ite_not, up_eq, up_ne, or_self, or_true, true_or, or_false, false_or, and_true, true_and, and_self, not_true_eq_false, not_false_eq_true, Bool.false_eq_true]
        · rw [ggR_richest_1]
          simp -implicitDefEqProofs (disch := (first | omega | assumption | exact am_isS_3 | exact am_isS_25 | exact am_isX_356 | exact am_isX_359)) only [ggR_richest_0, ggR_richest_2, ggR_richest_3, ggR_richest_4, ggR_richest_5, ggR_richest_6, ggR_richest_7, ccR_richest_1_1, ccR_richest_2_1, ccR_richest_4_4, ccR_richest_4_3, ccR_richest_4_2, ccR_richest_4_1, rR_children, rR_keeps, up_o, r3, hk, am_kI_x, am_kV_x, am_kI_i, am_nI_i, am_kV_i, am_nV_i, ↓reduceIte, eq_self, if_true, if_false, c_in, c_tn, pn_add, pn_mul, pn_subc, pn_addm, c_le_t, c_le_f, c_lt_t, c_lt_f, c_eq_f, c_eqm, bi_z, bi_1, bi_b, bi_T, bi_F, ite_not, up_eq, up_ne, or_self, or_true, true_or, or_false, false_or, and_true, true_and, and_self, not_true_eq_false, not_false_eq_true, Bool.false_eq_true]
      · obtain ⟨w, hw, eww⟩ := (okt.2.2.2.2.2.2 k hk).2.2.2
        have hne : ¬ (((Int32.ofNat k) : Int32) = -1) := by rw [c_eqm (by omega)]; exact fun q => q
        rw [r12 5 c (by omega) (by omega), ek, if_neg hne, c_tn (by omega), r11 3 k (by omega) (by omega) (by omega), eww] at ew
        rcases p2 with ⟨rfl, rfl⟩ | ⟨b, kb, hb, hkb, rfl, ekb, rfl⟩
        · have hm : ¬ ((Int32.ofNat w) ≤ (-1 : Int32)) := by
            rw [Int32.le_iff_toInt_le, pn_toInt (by omega)]
            have : ((-1 : Int32)).toInt = -1 := by decide
            omega
          refine ⟨((Int32.ofNat c), (Int32.ofNat w), .int (Int32.ofNat w)), (Int32.ofNat c), ⟨rfl, Or.inr ⟨c, k, hc, hk, rfl, ek, eww.symm⟩⟩, ?_, ?_⟩
          · rw [ggF_richest_1]
            simp -implicitDefEqProofs (disch := (first | omega | assumption | exact am_isS_3 | exact am_isS_25 | exact am_isX_356 | exact am_isX_359)) only [ggF_richest_0, ggF_richest_2, ggF_richest_3, ggF_richest_4, ggF_richest_5, ccF_richest_2_1, r4, ew, hm, am_kI_x, am_kV_x, am_kI_i, am_nI_i, am_kV_i, am_nV_i, ↓reduceIte, eq_self, if_true, if_false, c_in, c_tn, pn_add, pn_mul, pn_subc, pn_addm, c_le_t, c_le_f, c_lt_t, c_lt_f, c_eq_f, c_eqm, bi_z, bi_1, bi_b, bi_T, bi_F, ite_not, up_eq, up_ne, or_self, or_true, true_or, or_false, false_or, and_true, true_and, and_self, not_true_eq_false, not_false_eq_true, Bool.false_eq_true]
          · rw [ggR_richest_1]
            simp -implicitDefEqProofs (disch := (first | omega | assumption | exact am_isS_3 | exact am_isS_25 | exact am_isX_356 | exact am_isX_359)) only [ggR_richest_0, ggR_richest_2, ggR_richest_3, ggR_richest_4, ggR_richest_5, ggR_richest_6, ggR_richest_7, ccR_richest_1_1, ccR_richest_2_1, ccR_richest_4_4, ccR_richest_4_3, ccR_richest_4_2, ccR_richest_4_1, rR_children, rR_keeps, up_o, r3, ek, am_kI_x, am_kV_x, am_kI_i, am_nI_i, am_kV_i, am_nV_i, ↓reduceIte, eq_self, if_true, if_false, c_in, c_tn, pn_add, pn_mul, pn_subc, pn_addm, c_le_t, c_le_f, c_lt_t, c_lt_f, c_eq_f, c_eqm, bi_z, bi_1, bi_b, bi_T, bi_F, ite_not, up_eq, up_ne, or_self, or_true, true_or, or_false, false_or, and_true, true_and, and_self, not_true_eq_false, not_false_eq_true, Bool.false_eq_true]
        · by_cases hq : (Int32.ofNat w) ≤ hR.2 374 (7 + 4 * kb + 3)
          · refine ⟨((Int32.ofNat b), hR.2 374 (7 + 4 * kb + 3), .int (Int32.ofNat w)), (Int32.ofNat b), ⟨rfl, Or.inr ⟨b, kb, hb, hkb, rfl, ekb, rfl⟩⟩, ?_, ?_⟩
            · rw [ggF_richest_1]
              simp -implicitDefEqProofs (disch := (first | omega | assumption | exact am_isS_3 | exact am_isS_25 | exact am_isX_356 | exact am_isX_359)) only [ggF_richest_0, ggF_richest_2, ggF_richest_3, ggF_richest_4, ggF_richest_5, ccF_richest_2_1, r4, ew, hq, am_kI_x, am_kV_x, am_kI_i, am_nI_i, am_kV_i, am_nV_i, ↓reduceIte, eq_self, if_true, if_false, c_in, c_tn, pn_add, pn_mul, pn_subc, pn_addm, c_le_t, c_le_f, c_lt_t, c_lt_f, c_eq_f, c_eqm, bi_z, bi_1, bi_b, bi_T, bi_F, ite_not, up_eq, up_ne, or_self, or_true, true_or, or_false, false_or, and_true, true_and, and_self, not_true_eq_false, not_false_eq_true, Bool.false_eq_true]
            · rw [ggR_richest_1]
              simp -implicitDefEqProofs (disch := (first | omega | assumption | exact am_isS_3 | exact am_isS_25 | exact am_isX_356 | exact am_isX_359)) only [ggR_richest_0, ggR_richest_2, ggR_richest_3, ggR_richest_4, ggR_richest_5, ggR_richest_6, ggR_richest_7, ccR_richest_1_1, ccR_richest_2_1, ccR_richest_4_4, ccR_richest_4_3, ccR_richest_4_2, ccR_richest_4_1, rR_children, rR_keeps, rR_of, rR_ofThing, up_o, r3, ek, ekb, eww, hq, am_kI_x, am_kV_x, am_kI_i, am_nI_i, am_kV_i, am_nV_i, ↓reduceIte, eq_self, if_true, if_false, c_in, c_tn, pn_add, pn_mul, pn_subc, pn_addm, c_le_t, c_le_f, c_lt_t, c_lt_f, c_eq_f, c_eqm, bi_z, bi_1, bi_b, bi_T, bi_F, ite_not, up_eq, up_ne, or_self, or_true, true_or, or_false, false_or, and_true, true_and, and_self, not_true_eq_false, not_false_eq_true, Bool.false_eq_true]
          · refine ⟨((Int32.ofNat c), (Int32.ofNat w), .int (Int32.ofNat w)), (Int32.ofNat c), ⟨rfl, Or.inr ⟨c, k, hc, hk, rfl, ek, eww.symm⟩⟩, ?_, ?_⟩
            · rw [ggF_richest_1]
              simp -implicitDefEqProofs (disch := (first | omega | assumption | exact am_isS_3 | exact am_isS_25 | exact am_isX_356 | exact am_isX_359)) only [ggF_richest_0, ggF_richest_2, ggF_richest_3, ggF_richest_4, ggF_richest_5, ccF_richest_2_1, r4, ew, hq, am_kI_x, am_kV_x, am_kI_i, am_nI_i, am_kV_i, am_nV_i, ↓reduceIte, eq_self, if_true, if_false, c_in, c_tn, pn_add, pn_mul, pn_subc, pn_addm, c_le_t, c_le_f, c_lt_t, c_lt_f, c_eq_f, c_eqm, bi_z, bi_1, bi_b, bi_T, bi_F, ite_not, up_eq, up_ne, or_self, or_true, true_or, or_false, false_or, and_true, true_and, and_self, not_true_eq_false, not_false_eq_true, Bool.false_eq_true]
            · rw [ggR_richest_1]
              simp -implicitDefEqProofs (disch := (first | omega | assumption | exact am_isS_3 | exact am_isS_25 | exact am_isX_356 | exact am_isX_359)) only [ggR_richest_0, ggR_richest_2, ggR_richest_3, ggR_richest_4, ggR_richest_5, ggR_richest_6, ggR_richest_7, ccR_richest_1_1, ccR_richest_2_1, ccR_richest_4_4, ccR_richest_4_3, ccR_richest_4_2, ccR_richest_4_1, rR_children, rR_keeps, rR_of, rR_ofThing, up_o, r3, ek, ekb, eww, hq, am_kI_x, am_kV_x, am_kI_i, am_nI_i, am_kV_i, am_nV_i, ↓reduceIte, eq_self, if_true, if_false, c_in, c_tn, pn_add, pn_mul, pn_subc, pn_addm, c_le_t, c_le_f, c_lt_t, c_lt_f, c_eq_f, c_eqm, bi_z, bi_1, bi_b, bi_T, bi_F, ite_not, up_eq, up_ne, or_self, or_true, true_or, or_false, false_or, and_true, true_and, and_self, not_true_eq_false, not_false_eq_true, Bool.false_eq_true])
    (fun s t p => by
      obtain ⟨s1, s2, s3⟩ := s
      refine ⟨t, ?_, ?_⟩
      · have p1 : s1 = t := p.1
        subst p1
        rw [ggF_richest_1]
        simp -implicitDefEqProofs (disch := (first | omega | assumption | exact am_isS_3 | exact am_isS_25 | exact am_isX_356 | exact am_isX_359)) only [ggF_richest_0, ggF_richest_2, ggF_richest_3, ggF_richest_4, ggF_richest_5, ccF_richest_2_1, r4, am_kI_x, am_kV_x, am_kI_i, am_nI_i, am_kV_i, am_nV_i, ↓reduceIte, eq_self, if_true, if_false, c_in, c_tn, pn_add, pn_mul, pn_subc, pn_addm, c_le_t, c_le_f, c_lt_t, c_lt_f, c_eq_f, c_eqm, bi_z, bi_1, bi_b, bi_T, bi_F, ite_not, up_eq, up_ne, or_self, or_true, true_or, or_false, false_or, and_true, true_and, and_self, not_true_eq_false, not_false_eq_true, Bool.false_eq_true]
      · rw [ggR_richest_1]
        simp -implicitDefEqProofs (disch := (first | omega | assumption | exact am_isS_3 | exact am_isS_25 | exact am_isX_356 | exact am_isX_359)) only [ggR_richest_0, ggR_richest_2, ggR_richest_3, ggR_richest_4, ggR_richest_5, ggR_richest_6, ggR_richest_7, ccR_richest_1_1, ccR_richest_2_1, ccR_richest_4_4, ccR_richest_4_3, ccR_richest_4_2, ccR_richest_4_1, rR_children, up_o, r3, am_kI_x, am_kV_x, am_kI_i, am_nI_i, am_kV_i, am_nV_i, ↓reduceIte, eq_self, if_true, if_false, c_in, c_tn, pn_add, pn_mul, pn_subc, pn_addm, c_le_t, c_le_f, c_lt_t, c_lt_f, c_eq_f, c_eqm, bi_z, bi_1, bi_b, bi_T, bi_F, ite_not, up_eq, up_ne, or_self, or_true, true_or, or_false, false_or, and_true, true_and, and_self, not_true_eq_false, not_false_eq_true, Bool.false_eq_true]) N 0 (-1, -1, .null) (-1) (by omega) ⟨rfl, Or.inl ⟨rfl, rfl⟩⟩
  refine ⟨v, hC, am_up hR 373 0 (Int32.ofNat 0), J0, rfl, rfl, up_eq rfl rfl, ?_, ?_⟩
  · rw [uF_richest, ggF_richest_0]; exact e1
  · rw [uR_richest, ggR_richest_0]; exact e2
/-- how many: the same on both sides -/
theorem hm_rel {h : am_H} {W : Nat → Int32} {N G : Nat} (R : RelS h 3 W N G) {k : Nat} (hk : k < 9) (v : Int32) (d : Nat) : am_cl (d + 2) qS_howMany [.ref 3, .int (Int32.ofNat k), .int v] h = some (.inl (some ((Int32.ofNat (cnt (fun c => decide (W (43 + 9 * c + k) = v)) N)))), h) := by
  have hN := R.1
  rw [sS_howMany am_isS_3 hN R.2.2.2.1 d hk v, bs_rel R hk v, (bset_N _ (by omega)).2]
theorem T_nobody : Ans qF_nobody [.ref 0] qR_nobody [.ref 373] := by
  intro d hC hR J
  have J0 := J.thr (Int32.ofNat 0)
  obtain ⟨⟨N, G, R, okt, okc, okk, RL⟩, -⟩ := J
  have hN := R.1
  have e : (am_up hR 373 0 (Int32.ofNat 0)).2 374 0 = (Int32.ofNat N) := by rw [up_o (by omega)]; exact R.2.2.1
  have hmC := fun (t : Int32) (d : Nat) => hm_rel R (k := 4) (by omega) t d
  have hmR := fun (t : Int32) (d : Nat) => rR_howMany hN e d (k := 4) (by omega) t
  rw [up_o (by omega)] at hmR
  have cl : ∀ p : Nat → Bool, cnt p N < 100 := fun p => by have := cnt_le (p := p) N; omega
  obtain ⟨v, e1, e2⟩ := lpp (Φ := am_cl (d + 119)) (Ψ := am_cl (d + 119)) (q := qF_nobody) (b := 1) (q' := qR_nobody) (b' := 1) (N := 8) (h := hC) (h' := am_up hR 373 0 (Int32.ofNat 0)) (L := fun c (s : Int32) => [.ref 0, .int s, .int (Int32.ofNat c)]) (M := fun c (t : Int32) => [.ref 373, .int t, .int (Int32.ofNat c)]) (P := fun c s t => s = t)
    (fun c s t hc p => by
      subst p
      by_cases hq : (Int32.ofNat (cnt (fun c => decide (hR.2 374 (43 + 9 * c + 4) = s)) N)) ≤ (Int32.ofNat (cnt (fun c' => decide (hR.2 374 (43 + 9 * c' + 4) = (Int32.ofNat c))) N))
      · refine ⟨s, s, rfl, ?_, ?_⟩
        · rw [ggF_nobody_1]
          simp -implicitDefEqProofs (disch := (first | omega | assumption | exact am_isS_3 | exact am_isS_25 | exact am_isX_356 | exact am_isX_359)) only [ggF_nobody_0, ggF_nobody_2, ggF_nobody_3, ggF_nobody_4, ggF_nobody_5, ccF_nobody_2_2, ccF_nobody_2_1, hmC, hq, am_kI_x, am_kV_x, am_kI_i, am_nI_i, am_kV_i, am_nV_i, ↓reduceIte, eq_self, if_true, if_false, c_in, c_tn, pn_add, pn_mul, pn_subc, pn_addm, c_le_t, c_le_f, c_lt_t, c_lt_f, c_eq_f, c_eqm, bi_z, bi_1, bi_b, bi_T, bi_F, ite_not, up_eq, up_ne, or_self, or_true, true_or, or_false, false_or, and_true, true_and, and_self, not_true_eq_false, not_false_eq_true, Bool.false_eq_true]
        · rw [ggR_nobody_1]
          simp -implicitDefEqProofs (disch := (first | omega | assumption | exact am_isS_3 | exact am_isS_25 | exact am_isX_356 | exact am_isX_359)) only [ggR_nobody_0, ggR_nobody_2, ggR_nobody_3, ggR_nobody_4, ggR_nobody_5, ggR_nobody_6, ccR_nobody_2_2, ccR_nobody_2_1, hmR, hq, am_kI_x, am_kV_x, am_kI_i, am_nI_i, am_kV_i, am_nV_i, ↓reduceIte, eq_self, if_true, if_false, c_in, c_tn, pn_add, pn_mul, pn_subc, pn_addm, c_le_t, c_le_f, c_lt_t, c_lt_f, c_eq_f, c_eqm, bi_z, bi_1, bi_b, bi_T, bi_F, ite_not, up_eq, up_ne, or_self, or_true, true_or, or_false, false_or, and_true, true_and, and_self, not_true_eq_false, not_false_eq_true, Bool.false_eq_true]
      · refine ⟨(Int32.ofNat c), (Int32.ofNat c), rfl, ?_, ?_⟩
        · rw [ggF_nobody_1]
          simp -implicitDefEqProofs (disch := (first | omega | assumption | exact am_isS_3 | exact am_isS_25 | exact am_isX_356 | exact am_isX_359)) only [ggF_nobody_0, ggF_nobody_2, ggF_nobody_3, ggF_nobody_4, ggF_nobody_5, ccF_nobody_2_2, ccF_nobody_2_1, hmC, hq, am_kI_x, am_kV_x, am_kI_i, am_nI_i, am_kV_i, am_nV_i, ↓reduceIte, eq_self, if_true, if_false, c_in, c_tn, pn_add, pn_mul, pn_subc, pn_addm, c_le_t, c_le_f, c_lt_t, c_lt_f, c_eq_f, c_eqm, bi_z, bi_1, bi_b, bi_T, bi_F, ite_not, up_eq, up_ne, or_self, or_true, true_or, or_false, false_or, and_true, true_and, and_self, not_true_eq_false, not_false_eq_true, Bool.false_eq_true]
        · rw [ggR_nobody_1]
          simp -implicitDefEqProofs (disch := (first | omega | assumption | exact am_isS_3 | exact am_isS_25 | exact am_isX_356 | exact am_isX_359)) only [ggR_nobody_0, ggR_nobody_2, ggR_nobody_3, ggR_nobody_4, ggR_nobody_5, ggR_nobody_6, ccR_nobody_2_2, ccR_nobody_2_1, hmR, hq, am_kI_x, am_kV_x, am_kI_i, am_nI_i, am_kV_i, am_nV_i, ↓reduceIte, eq_self, if_true, if_false, c_in, c_tn, pn_add, pn_mul, pn_subc, pn_addm, c_le_t, c_le_f, c_lt_t, c_lt_f, c_eq_f, c_eqm, bi_z, bi_1, bi_b, bi_T, bi_F, ite_not, up_eq, up_ne, or_self, or_true, true_or, or_false, false_or, and_true, true_and, and_self, not_true_eq_false, not_false_eq_true, Bool.false_eq_true])
    (fun s t p => by
      subst p
      refine ⟨s, ?_, ?_⟩
      · rw [ggF_nobody_1]
        simp -implicitDefEqProofs (disch := (first | omega | assumption | exact am_isS_3 | exact am_isS_25 | exact am_isX_356 | exact am_isX_359)) only [ggF_nobody_0, ggF_nobody_2, ggF_nobody_3, ggF_nobody_4, ggF_nobody_5, ccF_nobody_2_2, ccF_nobody_2_1, am_kI_x, am_kV_x, am_kI_i, am_nI_i, am_kV_i, am_nV_i, ↓reduceIte, eq_self, if_true, if_false, c_in, c_tn, pn_add, pn_mul, pn_subc, pn_addm, c_le_t, c_le_f, c_lt_t, c_lt_f, c_eq_f, c_eqm, bi_z, bi_1, bi_b, bi_T, bi_F, ite_not, up_eq, up_ne, or_self, or_true, true_or, or_false, false_or, and_true, true_and, and_self, not_true_eq_false, not_false_eq_true, Bool.false_eq_true]
      · rw [ggR_nobody_1]
        simp -implicitDefEqProofs (disch := (first | omega | assumption | exact am_isS_3 | exact am_isS_25 | exact am_isX_356 | exact am_isX_359)) only [ggR_nobody_0, ggR_nobody_2, ggR_nobody_3, ggR_nobody_4, ggR_nobody_5, ggR_nobody_6, ccR_nobody_2_2, ccR_nobody_2_1, am_kI_x, am_kV_x, am_kI_i, am_nI_i, am_kV_i, am_nV_i, ↓reduceIte, eq_self, if_true, if_false, c_in, c_tn, pn_add, pn_mul, pn_subc, pn_addm, c_le_t, c_le_f, c_lt_t, c_lt_f, c_eq_f, c_eqm, bi_z, bi_1, bi_b, bi_T, bi_F, ite_not, up_eq, up_ne, or_self, or_true, true_or, or_false, false_or, and_true, true_and, and_self, not_true_eq_false, not_false_eq_true, Bool.false_eq_true]) 7 1 (Int32.ofNat 0) (Int32.ofNat 0) (by omega) rfl
  refine ⟨v, hC, am_up hR 373 0 (Int32.ofNat 0), J0, rfl, rfl, up_eq rfl rfl, ?_, ?_⟩
  · rw [uF_nobody, ggF_nobody_0]; exact e1
  · rw [uR_nobody, ggR_nobody_0]; exact e2
