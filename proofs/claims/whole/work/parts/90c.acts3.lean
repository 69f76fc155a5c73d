/-! change, cut, undo -/
theorem up_comm {h : am_H} {o i o' i' : Nat} {v v' : Int32} (hn : o ≠ o' ∨ i ≠ i') : am_up (am_up h o i v) o' i' v' = am_up (am_up h o' i' v') o i v := by
  unfold am_up
  simp only
  congr 1
  funext p q
  by_cases h1 : p = o' ∧ q = i'
  · rw [if_pos h1, if_neg (fun z => by omega), if_pos h1]
  · rw [if_neg h1]
    by_cases h2 : p = o ∧ q = i
    · rw [if_pos h2, if_pos h2]
    · rw [if_neg h2, if_neg h2, if_neg h1]
theorem T_change (x y : Int32) : Two qF_change [.ref 0, .int x, .int y] qR_change [.ref 373, .int x, .int y] (am_ctt 10) := by
  intro d hC hR J
  have J0 := J.thr (Int32.ofNat 0)
  obtain ⟨⟨N, G, R, okt, okc, okk, RL⟩, -⟩ := id J
  have hN := R.1
  have r3 := R.2.2.1
  have r4 := R.2.2.2.1
  have r12 := R.2.2.2.2.2.2.2.2.2.2.2.1
  rcases ch_cases hN x with ⟨a, ha, rfl⟩ | ⟨b1, b2⟩
  · rcases ch_cases hN y with ⟨b, hb, rfl⟩ | ⟨b1, b2⟩
    · by_cases hab : a = b
      · subst hab
        refine ⟨am_th hC, am_up (am_up hR 373 0 (Int32.ofNat 0)) 373 0 (Int32.ofNat 2), (J0.thr (Int32.ofNat 2)).th, rfl, Or.inr ⟨1, 2, (Int32.ofNat 0), rfl, by decide, up_eq rfl rfl, ?_, ?_⟩⟩
        · simp -implicitDefEqProofs (disch := (first | omega | assumption | exact am_isS_3 | exact am_isS_25 | exact am_isX_356 | exact am_isX_359)) only [uF_change, ggF_change_0, ggF_change_1, ggF_change_2, ggF_change_3, ccF_change_0_1, ccF_change_3_1, xF_needTwo_1 hN r4 ha, am_kI_x, am_kV_x, am_kI_i, am_nI_i, am_kV_i, am_nV_i, ↓reduceIte, eq_self, if_true, if_false, c_in, c_tn, pn_add, pn_mul, pn_subc, pn_addm, c_le_t, c_le_f, c_lt_t, c_lt_f, c_eq_f, c_eqm, bi_z, bi_1, bi_b, bi_T, bi_F, ite_not, up_eq, up_ne, or_self, or_true, true_or, or_false, false_or, and_true, true_and, and_self, not_true_eq_false, not_false_eq_true, Bool.false_eq_true]
        · simp -implicitDefEqProofs (disch := (first | omega | assumption | exact am_isS_3 | exact am_isS_25 | exact am_isX_356 | exact am_isX_359)) only [uR_change, ggR_change_0, ggR_change_1, ggR_change_2, ggR_change_3, ggR_change_4, ggR_change_5, ggR_change_6, ggR_change_7, ccR_change_0_1, ccR_change_1_1, ccR_change_2_1, ccR_change_5_1, ccR_change_7_6, ccR_change_7_5, ccR_change_7_4, ccR_change_7_3, ccR_change_7_2, ccR_change_7_1, rR_noTwo_1 hN r3 ha, am_kI_x, am_kV_x, am_kI_i, am_nI_i, am_kV_i, am_nV_i, ↓reduceIte, eq_self, if_true, if_false, c_in, c_tn, pn_add, pn_mul, pn_subc, pn_addm, c_le_t, c_le_f, c_lt_t, c_lt_f, c_eq_f, c_eqm, bi_z, bi_1, bi_b, bi_T, bi_F, ite_not, up_eq, up_ne, or_self, or_true, true_or, or_false, false_or, and_true, true_and, and_self, not_true_eq_false, not_false_eq_true, Bool.false_eq_true]
      · obtain ⟨wa, hwa, ea⟩ := (okc a ha).2.2.2.2.2.2.2.1
        obtain ⟨wb, hwb, eb⟩ := (okc b hb).2.2.2.2.2.2.2.1
        have ha8 : a < 8 := by omega
        have hb8 : b < 8 := by omega
        by_cases ho : wa = 1 ∧ wb = 1
        · obtain ⟨rfl, rfl⟩ := ho
          obtain ⟨hC1, hR1, J1, a1, a2, eC, eR, fC, fR, f7⟩ := remember_both J0 (d + 116) (d + 118)
          obtain ⟨⟨N1, G1, L⟩, -⟩ := id J1
          have fW : hR1.2 374 = hR.2 374 := by rw [fR 374 (by omega) (by omega), up_o (by omega)]
          have e1 := L.1.2.2.2.2.2.2.2.2.2.2.2.1 5 a (by omega) ha8
          have e2 := L.1.2.2.2.2.2.2.2.2.2.2.2.1 5 b (by omega) hb8
          rw [fW] at e1 e2
          have L1 := L.ch (c := b) (k := 5) hb8 (by omega) (by omega) (rgk_5 (okc a ha).2.2.2.2.2.1)
          have L2 := L1.ch (c := a) (k := 5) ha8 (by omega) (by omega) (rgk_5 (okc b hb).2.2.2.2.2.1)
          rw [up_comm (h := hR1) (by omega)] at L2
          refine ⟨_, _, J1.lk L2 (fun p h1 h2 h3 => by rw [up_o (by omega), up_o (by omega)]) (fun p h1 h2 => by rw [up_o h1, up_o h1]), a2, Or.inl ⟨hR.2 374 (43 + 9 * b + 5), a1, ?_, ?_, ?_⟩⟩
          · rw [up_ne (by omega), up_ne (by omega), f7 0 (by omega)]; exact up_eq rfl rfl
          · simp -implicitDefEqProofs (disch := (first | omega | assumption | exact am_isS_3 | exact am_isS_25 | exact am_isX_356 | exact am_isX_359)) only [uF_change, ggF_change_0, ggF_change_1, ggF_change_2, ggF_change_3, ccF_change_0_1, ccF_change_3_1, xF_needTwo hN r4 ha hb hab, r12, ea, eb, eC, e1, e2, am_kI_x, am_kV_x, am_kI_i, am_nI_i, am_kV_i, am_nV_i, ↓reduceIte, eq_self, if_true, if_false, c_in, c_tn, pn_add, pn_mul, pn_subc, pn_addm, c_le_t, c_le_f, c_lt_t, c_lt_f, c_eq_f, c_eqm, bi_z, bi_1, bi_b, bi_T, bi_F, ite_not, up_eq, up_ne, or_self, or_true, true_or, or_false, false_or, and_true, true_and, and_self, not_true_eq_false, not_false_eq_true, Bool.false_eq_true]
          · simp -implicitDefEqProofs (disch := (first | omega | assumption | exact am_isS_3 | exact am_isS_25 | exact am_isX_356 | exact am_isX_359)) only [uR_change, ggR_change_0, ggR_change_1, ggR_change_2, ggR_change_3, ggR_change_4, ggR_change_5, ggR_change_6, ggR_change_7, ccR_change_0_1, ccR_change_1_1, ccR_change_2_1, ccR_change_5_1, ccR_change_7_6, ccR_change_7_5, ccR_change_7_4, ccR_change_7_3, ccR_change_7_2, ccR_change_7_1, rR_noTwo hN r3 ha hb hab, rR_isOpened, rR_throwsIf_f, rR_of, rR_at, up_o, ea, eb, eR, fW, k_373, am_kI_x, am_kV_x, am_kI_i, am_nI_i, am_kV_i, am_nV_i, ↓reduceIte, eq_self, if_true, if_false, c_in, c_tn, pn_add, pn_mul, pn_subc, pn_addm, c_le_t, c_le_f, c_lt_t, c_lt_f, c_eq_f, c_eqm, bi_z, bi_1, bi_b, bi_T, bi_F, ite_not, up_eq, up_ne, or_self, or_true, true_or, or_false, false_or, and_true, true_and, and_self, not_true_eq_false, not_false_eq_true, Bool.false_eq_true]
        · refine ⟨am_th hC, am_up (am_up hR 373 0 (Int32.ofNat 0)) 373 0 (Int32.ofNat 3), (J0.thr (Int32.ofNat 3)).th, rfl, Or.inr ⟨2, 3, (Int32.ofNat 0), rfl, by decide, up_eq rfl rfl, ?_, ?_⟩⟩
          · by_cases h0 : wa = 0
            · subst h0
              simp -implicitDefEqProofs (disch := (first | omega | assumption | exact am_isS_3 | exact am_isS_25 | exact am_isX_356 | exact am_isX_359)) only [uF_change, ggF_change_0, ggF_change_1, ggF_change_2, ggF_change_3, ccF_change_0_1, ccF_change_3_1, xF_needTwo hN r4 ha hb hab, r12, ea, am_kI_x, am_kV_x, am_kI_i, am_nI_i, am_kV_i, am_nV_i, ↓reduceIte, eq_self, if_true, if_false, c_in, c_tn, pn_add, pn_mul, pn_subc, pn_addm, c_le_t, c_le_f, c_lt_t, c_lt_f, c_eq_f, c_eqm, bi_z, bi_1, bi_b, bi_T, bi_F, ite_not, up_eq, up_ne, or_self, or_true, true_or, or_false, false_or, and_true, true_and, and_self, not_true_eq_false, not_false_eq_true, Bool.false_eq_true]
            · have q : wb = 0 := by omega
              subst q
              simp -implicitDefEqProofs (disch := (first | omega | assumption | exact am_isS_3 | exact am_isS_25 | exact am_isX_356 | exact am_isX_359)) only [uF_change, ggF_change_0, ggF_change_1, ggF_change_2, ggF_change_3, ccF_change_0_1, ccF_change_3_1, xF_needTwo hN r4 ha hb hab, r12, ea, eb, am_kI_x, am_kV_x, am_kI_i, am_nI_i, am_kV_i, am_nV_i, ↓reduceIte, eq_self, if_true, if_false, c_in, c_tn, pn_add, pn_mul, pn_subc, pn_addm, c_le_t, c_le_f, c_lt_t, c_lt_f, c_eq_f, c_eqm, bi_z, bi_1, bi_b, bi_T, bi_F, ite_not, up_eq, up_ne, or_self, or_true, true_or, or_false, false_or, and_true, true_and, and_self, not_true_eq_false, not_false_eq_true, Bool.false_eq_true]
          · by_cases h0 : wa = 0
            · subst h0
              simp -implicitDefEqProofs (disch := (first | omega | assumption | exact am_isS_3 | exact am_isS_25 | exact am_isX_356 | exact am_isX_359)) only [uR_change, ggR_change_0, ggR_change_1, ggR_change_2, ggR_change_3, ggR_change_4, ggR_change_5, ggR_change_6, ggR_change_7, ccR_change_0_1, ccR_change_1_1, ccR_change_2_1, ccR_change_5_1, ccR_change_7_6, ccR_change_7_5, ccR_change_7_4, ccR_change_7_3, ccR_change_7_2, ccR_change_7_1, rR_noTwo hN r3 ha hb hab, rR_isOpened, rR_throwsIf_t, up_o, ea, k_373, am_kI_x, am_kV_x, am_kI_i, am_nI_i, am_kV_i, am_nV_i, ↓reduceIte, eq_self, if_true, if_false, c_in, c_tn, pn_add, pn_mul, pn_subc, pn_addm, c_le_t, c_le_f, c_lt_t, c_lt_f, c_eq_f, c_eqm, bi_z, bi_1, bi_b, bi_T, bi_F, ite_not, up_eq, up_ne, or_self, or_true, true_or, or_false, false_or, and_true, true_and, and_self, not_true_eq_false, not_false_eq_true, Bool.false_eq_true]
            · have q : wb = 0 := by omega
              have q1 : wa = 1 := by omega
              subst q q1
              simp -implicitDefEqProofs (disch := (first | omega | assumption | exact am_isS_3 | exact am_isS_25 | exact am_isX_356 | exact am_isX_359)) only [uR_change, ggR_change_0, ggR_change_1, ggR_change_2, ggR_change_3, ggR_change_4, ggR_change_5, ggR_change_6, ggR_change_7, ccR_change_0_1, ccR_change_1_1, ccR_change_2_1, ccR_change_5_1, ccR_change_7_6, ccR_change_7_5, ccR_change_7_4, ccR_change_7_3, ccR_change_7_2, ccR_change_7_1, rR_noTwo hN r3 ha hb hab, rR_isOpened, rR_throwsIf_t, up_o, ea, eb, k_373, am_kI_x, am_kV_x, am_kI_i, am_nI_i, am_kV_i, am_nV_i, ↓reduceIte, eq_self, if_true, if_false, c_in, c_tn, pn_add, pn_mul, pn_subc, pn_addm, c_le_t, c_le_f, c_lt_t, c_lt_f, c_eq_f, c_eqm, bi_z, bi_1, bi_b, bi_T, bi_F, ite_not, up_eq, up_ne, or_self, or_true, true_or, or_false, false_or, and_true, true_and, and_self, not_true_eq_false, not_false_eq_true, Bool.false_eq_true]
    · refine ⟨am_th hC, am_up (am_up hR 373 0 (Int32.ofNat 0)) 373 0 (Int32.ofNat 1), (J0.thr (Int32.ofNat 1)).th, rfl, Or.inr ⟨3, 1, (Int32.ofNat 0), rfl, by decide, up_eq rfl rfl, ?_, ?_⟩⟩
      · simp -implicitDefEqProofs (disch := (first | omega | assumption | exact am_isS_3 | exact am_isS_25 | exact am_isX_356 | exact am_isX_359)) only [uF_change, ggF_change_0, ggF_change_1, ggF_change_2, ggF_change_3, ccF_change_0_1, ccF_change_3_1, xF_needTwo_y hN r4 ha b2, am_kI_x, am_kV_x, am_kI_i, am_nI_i, am_kV_i, am_nV_i, ↓reduceIte, eq_self, if_true, if_false, c_in, c_tn, pn_add, pn_mul, pn_subc, pn_addm, c_le_t, c_le_f, c_lt_t, c_lt_f, c_eq_f, c_eqm, bi_z, bi_1, bi_b, bi_T, bi_F, ite_not, up_eq, up_ne, or_self, or_true, true_or, or_false, false_or, and_true, true_and, and_self, not_true_eq_false, not_false_eq_true, Bool.false_eq_true]
      · simp -implicitDefEqProofs (disch := (first | omega | assumption | exact am_isS_3 | exact am_isS_25 | exact am_isX_356 | exact am_isX_359)) only [uR_change, ggR_change_0, ggR_change_1, ggR_change_2, ggR_change_3, ggR_change_4, ggR_change_5, ggR_change_6, ggR_change_7, ccR_change_0_1, ccR_change_1_1, ccR_change_2_1, ccR_change_5_1, ccR_change_7_6, ccR_change_7_5, ccR_change_7_4, ccR_change_7_3, ccR_change_7_2, ccR_change_7_1, rR_noTwo_y hN r3 ha b1, am_kI_x, am_kV_x, am_kI_i, am_nI_i, am_kV_i, am_nV_i, ↓reduceIte, eq_self, if_true, if_false, c_in, c_tn, pn_add, pn_mul, pn_subc, pn_addm, c_le_t, c_le_f, c_lt_t, c_lt_f, c_eq_f, c_eqm, bi_z, bi_1, bi_b, bi_T, bi_F, ite_not, up_eq, up_ne, or_self, or_true, true_or, or_false, false_or, and_true, true_and, and_self, not_true_eq_false, not_false_eq_true, Bool.false_eq_true]
  · refine ⟨am_th hC, am_up (am_up hR 373 0 (Int32.ofNat 0)) 373 0 (Int32.ofNat 1), (J0.thr (Int32.ofNat 1)).th, rfl, Or.inr ⟨3, 1, (Int32.ofNat 0), rfl, by decide, up_eq rfl rfl, ?_, ?_⟩⟩
    · simp -implicitDefEqProofs (disch := (first | omega | assumption | exact am_isS_3 | exact am_isS_25 | exact am_isX_356 | exact am_isX_359)) only [uF_change, ggF_change_0, ggF_change_1, ggF_change_2, ggF_change_3, ccF_change_0_1, ccF_change_3_1, xF_needTwo_x y r4 b2, am_kI_x, am_kV_x, am_kI_i, am_nI_i, am_kV_i, am_nV_i, ↓reduceIte, eq_self, if_true, if_false, c_in, c_tn, pn_add, pn_mul, pn_subc, pn_addm, c_le_t, c_le_f, c_lt_t, c_lt_f, c_eq_f, c_eqm, bi_z, bi_1, bi_b, bi_T, bi_F, ite_not, up_eq, up_ne, or_self, or_true, true_or, or_false, false_or, and_true, true_and, and_self, not_true_eq_false, not_false_eq_true, Bool.false_eq_true]
    · simp -implicitDefEqProofs (disch := (first | omega | assumption | exact am_isS_3 | exact am_isS_25 | exact am_isX_356 | exact am_isX_359)) only [uR_change, ggR_change_0, ggR_change_1, ggR_change_2, ggR_change_3, ggR_change_4, ggR_change_5, ggR_change_6, ggR_change_7, ccR_change_0_1, ccR_change_1_1, ccR_change_2_1, ccR_change_5_1, ccR_change_7_6, ccR_change_7_5, ccR_change_7_4, ccR_change_7_3, ccR_change_7_2, ccR_change_7_1, rR_noTwo_x y r3 b1, am_kI_x, am_kV_x, am_kI_i, am_nI_i, am_kV_i, am_nV_i, ↓reduceIte, eq_self, if_true, if_false, c_in, c_tn, pn_add, pn_mul, pn_subc, pn_addm, c_le_t, c_le_f, c_lt_t, c_lt_f, c_eq_f, c_eqm, bi_z, bi_1, bi_b, bi_T, bi_F, ite_not, up_eq, up_ne, or_self, or_true, true_or, or_false, false_or, and_true, true_and, and_self, not_true_eq_false, not_false_eq_true, Bool.false_eq_true]
theorem rR_isCut {h : am_H} {c k : Nat} (hc : c < 8) (hk : k < 8) (e : h.2 374 (43 + 9 * c + 8) = (Int32.ofNat k)) (d : Nat) : am_cl (d + 3) qR_isCut [.ref 373, .int (Int32.ofNat c)] h = some (.inl none, am_up (am_up h 374 (43 + 9 * k + 8) (-1)) 374 (43 + 9 * c + 8) (-1)) := by
  simp -implicitDefEqProofs (disch := (first | omega | assumption | exact am_isS_3 | exact am_isS_25 | exact am_isX_356 | exact am_isX_359)) only [uR_isCut, ggR_isCut_0, ccR_isCut_0_3, ccR_isCut_0_2, ccR_isCut_0_1, rR_of, rR_at, e, am_kI_x, am_kV_x, am_kI_i, am_nI_i, am_kV_i, am_nV_i, ↓reduceIte, eq_self, if_true, if_false, c_in, c_tn, pn_add, pn_mul, pn_subc, pn_addm, c_le_t, c_le_f, c_lt_t, c_lt_f, c_eq_f, c_eqm, bi_z, bi_1, bi_b, bi_T, bi_F, ite_not, up_eq, up_ne, or_self, or_true, true_or, or_false, false_or, and_true, true_and, and_self, not_true_eq_false, not_false_eq_true, Bool.false_eq_true]
/-- a knot is cut -/
theorem Lk.cut {hC hR : am_H} {o N G : Nat} (ho2 : o + 22 ≤ 335) (L : Lk hC hR o N G) {c k : Nat} (hc : c < N) (hk : k < N) (e : hR.2 374 (43 + 9 * c + 8) = (Int32.ofNat k)) : Lk (am_up (am_up hC (o + 7 + 8) k (-1)) (o + 7 + 8) c (-1)) (am_up (am_up hR 374 (43 + 9 * k + 8) (-1)) 374 (43 + 9 * c + 8) (-1)) o N G := by
  obtain ⟨R, okt, okc, okk, RL⟩ := L
  have hN := R.1
  have eW : (am_up (am_up hR 374 (43 + 9 * k + 8) (-1)) 374 (43 + 9 * c + 8) (-1)).2 374 = pu (pu (hR.2 374) (43 + 9 * k + 8) (-1)) (43 + 9 * c + 8) (-1) := by rw [up_pu, up_pu]
  refine ⟨?_, ?_, ?_, ?_, ?_⟩
  · rw [eW]; exact (R.ch (by omega) (by omega) _).ch (by omega) (by omega) _
  · rw [eW]; exact okt.ch.ch
  · rw [eW]; exact (okc.ch (by omega) (rgk_8 (Or.inl rfl))).ch (by omega) (rgk_8 (Or.inl rfl))
  · rw [eW]
    obtain ⟨a, b, q⟩ := okk
    obtain ⟨b1, b2, b3⟩ := b c k hc hk e
    refine ⟨fun c' hc' => ?_, fun c' k' hc' hk' => ?_, ?_⟩
    · rw [pu_ne (by omega), pu_ne (by omega), pu_ne (by omega), pu_ne (by omega)]; exact a c' hc'
    · intro z
      by_cases h1 : c' = c
      · rw [h1, pu_eq rfl] at z
        exact absurd z.symm (by rw [c_eqm (by omega)]; exact fun h => h)
      · rw [pu_ne (by omega)] at z
        by_cases h2 : c' = k
        · rw [h2, pu_eq rfl] at z
          exact absurd z.symm (by rw [c_eqm (by omega)]; exact fun h => h)
        · rw [pu_ne (by omega)] at z
          obtain ⟨z1, z2, z3⟩ := b c' k' hc' hk' z
          have n1 : k' ≠ c := fun q => by
            rw [q, e] at z2
            exact h2 ((pn_eq (by omega) (by omega)).mp z2).symm
          have n2 : k' ≠ k := fun q => by
            rw [q, b2] at z2
            exact h1 ((pn_eq (by omega) (by omega)).mp z2).symm
          refine ⟨z1, ?_, ?_⟩
          · rw [pu_ne (by omega), pu_ne (by omega)]; exact z2
          · rw [pu_ne (by omega), pu_ne (by omega)]; exact z3
    · rw [← q]
      exact cnt_congr (fun j hj => by rw [pu_ne (by omega), pu_ne (by omega)])
  · rw [eW]
    exact RL.of (fun q h1 h2 => by rw [up_o (by omega), up_o (by omega)]) (by rw [pu_ne (by omega), pu_ne (by omega)]) (fun j h1 h2 => by rw [pu_ne (by omega), pu_ne (by omega)])
theorem T_cut (x : Int32) : Two qF_cut [.ref 0, .int x] qR_cut [.ref 373, .int x] (am_ctt 11) := by
  intro d hC hR J
  have J0 := J.thr (Int32.ofNat 0)
  obtain ⟨⟨N, G, R, okt, okc, okk, RL⟩, -⟩ := id J
  have hN := R.1
  have r3 := R.2.2.1
  have r4 := R.2.2.2.1
  have r12 := R.2.2.2.2.2.2.2.2.2.2.2.1
  rcases ch_cases hN x with ⟨c, hc, rfl⟩ | ⟨b1, b2⟩
  · have hc8 : c < 8 := by omega
    rcases (okc c hc).2.2.2.2.2.2.2.2 with hk | ⟨k, hk, ek⟩
    · refine ⟨am_th hC, am_up (am_up hR 373 0 (Int32.ofNat 0)) 373 0 (Int32.ofNat 2), (J0.thr (Int32.ofNat 2)).th, rfl, Or.inr ⟨2, 2, (Int32.ofNat 0), rfl, by decide, up_eq rfl rfl, ?_, ?_⟩⟩
      · simp -implicitDefEqProofs (disch := (first | omega | assumption | exact am_isS_3 | exact am_isS_25 | exact am_isX_356 | exact am_isX_359)) only [uF_cut, ggF_cut_0, ggF_cut_1, ggF_cut_2, ccF_cut_0_1, ccF_cut_2_2, ccF_cut_2_1, xF_needChild hN r4 hc, r12, hk, am_kI_x, am_kV_x, am_kI_i, am_nI_i, am_kV_i, am_nV_i, ↓reduceIte, eq_self, if_true, if_false, c_in, c_tn, pn_add, pn_mul, pn_subc, pn_addm, c_le_t, c_le_f, c_lt_t, c_lt_f, c_eq_f, c_eqm, bi_z, bi_1, bi_b, bi_T, bi_F, ite_not, up_eq, up_ne, or_self, or_true, true_or, or_false, false_or, and_true, true_and, and_self, not_true_eq_false, not_false_eq_true, Bool.false_eq_true]
      · simp -implicitDefEqProofs (disch := (first | omega | assumption | exact am_isS_3 | exact am_isS_25 | exact am_isX_356 | exact am_isX_359)) only [uR_cut, ggR_cut_0, ggR_cut_1, ggR_cut_2, ggR_cut_3, ggR_cut_4, ggR_cut_5, ggR_cut_6, ccR_cut_0_2, ccR_cut_0_1, ccR_cut_1_1, ccR_cut_4_1, ccR_cut_6_3, ccR_cut_6_2, ccR_cut_6_1, rR_noChild, rR_hasKnot, rR_throwsIf_f, rR_throwsIf_t, up_o, r3, hk, k_373, am_kI_x, am_kV_x, am_kI_i, am_nI_i, am_kV_i, am_nV_i, ↓reduceIte, eq_self, if_true, if_false, c_in, c_tn, pn_add, pn_mul, pn_subc, pn_addm, c_le_t, c_le_f, c_lt_t, c_lt_f, c_eq_f, c_eqm, bi_z, bi_1, bi_b, bi_T, bi_F, ite_not, up_eq, up_ne, or_self, or_true, true_or, or_false, false_or, and_true, true_and, and_self, not_true_eq_false, not_false_eq_true, Bool.false_eq_true]
    · have hk8 : k < 8 := by omega
      obtain ⟨hC1, hR1, J1, a1, a2, eC, eR, fC, fR, f7⟩ := remember_both J0 (d + 116) (d + 118)
      have fW : hR1.2 374 = hR.2 374 := by rw [fR 374 (by omega) (by omega), up_o (by omega)]
      have fS : ∀ p, 3 ≤ p → p < 25 → hC1.2 p = hC.2 p := fun p h1 h2 => fC p (by omega)
      have L : Lk hC1 hR1 3 N G := by
        refine Lk.of (hC := hC) (hR := hR) ⟨R, okt, okc, okk, RL⟩ fS (fun p h1 h2 => fC p (by omega)) (fun j _ => by rw [fW])
      have L2 := L.cut (by omega) hc hk (by rw [fW]; exact ek)
      have eu := xS_untie1 am_isS_3 (h := hC1) hc8 hk8 (by rw [fS _ (by omega) (by omega), r12 8 c (by omega) hc8]; exact ek)
      have ec := rR_isCut (h := hR1) hc8 hk8 (by rw [fW]; exact ek)
      refine ⟨_, _, J1.lk L2 (fun p h1 h2 h3 => by rw [up_o (by omega), up_o (by omega)]) (fun p h1 h2 => by rw [up_o h1, up_o h1]), a2, Or.inl ⟨(Int32.ofNat k), a1, ?_, ?_, ?_⟩⟩
      · rw [up_ne (by omega), up_ne (by omega), f7 0 (by omega)]; exact up_eq rfl rfl
      · simp -implicitDefEqProofs (disch := (first | omega | assumption | exact am_isS_3 | exact am_isS_25 | exact am_isX_356 | exact am_isX_359)) only [uF_cut, ggF_cut_0, ggF_cut_1, ggF_cut_2, ccF_cut_0_1, ccF_cut_2_2, ccF_cut_2_1, xF_needChild hN r4 hc, r12, ek, eC, eu, am_kI_x, am_kV_x, am_kI_i, am_nI_i, am_kV_i, am_nV_i, ↓reduceIte, eq_self, if_true, if_false, c_in, c_tn, pn_add, pn_mul, pn_subc, pn_addm, c_le_t, c_le_f, c_lt_t, c_lt_f, c_eq_f, c_eqm, bi_z, bi_1, bi_b, bi_T, bi_F, ite_not, up_eq, up_ne, or_self, or_true, true_or, or_false, false_or, and_true, true_and, and_self, not_true_eq_false, not_false_eq_true, Bool.false_eq_true]
      · simp -implicitDefEqProofs (disch := (first | omega | assumption | exact am_isS_3 | exact am_isS_25 | exact am_isX_356 | exact am_isX_359)) only [uR_cut, ggR_cut_0, ggR_cut_1, ggR_cut_2, ggR_cut_3, ggR_cut_4, ggR_cut_5, ggR_cut_6, ccR_cut_0_2, ccR_cut_0_1, ccR_cut_1_1, ccR_cut_4_1, ccR_cut_6_3, ccR_cut_6_2, ccR_cut_6_1, rR_noChild, rR_hasKnot, rR_throwsIf_f, rR_of, up_o, r3, ek, k_373, eR, fW, ec, am_kI_x, am_kV_x, am_kI_i, am_nI_i, am_kV_i, am_nV_i, ↓reduceIte, eq_self, if_true, if_false, c_in, c_tn, pn_add, pn_mul, pn_subc, pn_addm, c_le_t, c_le_f, c_lt_t, c_lt_f, c_eq_f, c_eqm, bi_z, bi_1, bi_b, bi_T, bi_F, ite_not, up_eq, up_ne, or_self, or_true, true_or, or_false, false_or, and_true, true_and, and_self, not_true_eq_false, not_false_eq_true, Bool.false_eq_true]
  · refine ⟨am_th hC, am_up (am_up hR 373 0 (Int32.ofNat 0)) 373 0 (Int32.ofNat 1), (J0.thr (Int32.ofNat 1)).th, rfl, Or.inr ⟨3, 1, (Int32.ofNat 0), rfl, by decide, up_eq rfl rfl, ?_, ?_⟩⟩
    · simp -implicitDefEqProofs (disch := (first | omega | assumption | exact am_isS_3 | exact am_isS_25 | exact am_isX_356 | exact am_isX_359)) only [uF_cut, ggF_cut_0, ggF_cut_1, ggF_cut_2, ccF_cut_0_1, ccF_cut_2_2, ccF_cut_2_1, xF_needChild_x r4 b2, am_kI_x, am_kV_x, am_kI_i, am_nI_i, am_kV_i, am_nV_i, ↓reduceIte, eq_self, if_true, if_false, c_in, c_tn, pn_add, pn_mul, pn_subc, pn_addm, c_le_t, c_le_f, c_lt_t, c_lt_f, c_eq_f, c_eqm, bi_z, bi_1, bi_b, bi_T, bi_F, ite_not, up_eq, up_ne, or_self, or_true, true_or, or_false, false_or, and_true, true_and, and_self, not_true_eq_false, not_false_eq_true, Bool.false_eq_true]
    · simp -implicitDefEqProofs (disch := (first | omega | assumption | exact am_isS_3 | exact am_isS_25 | exact am_isX_356 | exact am_isX_359)) only [uR_cut, ggR_cut_0, ggR_cut_1, ggR_cut_2, ggR_cut_3, ggR_cut_4, ggR_cut_5, ggR_cut_6, ccR_cut_0_2, ccR_cut_0_1, ccR_cut_1_1, ccR_cut_4_1, ccR_cut_6_3, ccR_cut_6_2, ccR_cut_6_1, rR_noChild, rR_throwsIf_t, up_o, r3, b1, k_373, am_kI_x, am_kV_x, am_kI_i, am_nI_i, am_kV_i, am_nV_i, ↓reduceIte, eq_self, if_true, if_false, c_in, c_tn, pn_add, pn_mul, pn_subc, pn_addm, c_le_t, c_le_f, c_lt_t, c_lt_f, c_eq_f, c_eqm, bi_z, bi_1, bi_b, bi_T, bi_F, ite_not, up_eq, up_ne, or_self, or_true, true_or, or_false, false_or, and_true, true_and, and_self, not_true_eq_false, not_false_eq_true, Bool.false_eq_true]
