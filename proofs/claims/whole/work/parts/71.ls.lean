/-! the class's side of the law -/
/-- what the law looks at -/
def RelF (h : am_H) (o : Nat) (W : Nat → Int32) : Prop := h.2 o 5 = W 3 ∧ (∀ k t, k < 4 → t < 9 → (t < 8 ∨ 1 ≤ k) → h.2 (o + 2 + k) t = W (7 + 4 * t + k)) ∧ ∀ k c, k < 9 → c < 8 → h.2 (o + 7 + k) c = W (43 + 9 * c + k)
theorem RelS.F {h : am_H} {o : Nat} {W : Nat → Int32} {N G : Nat} (R : RelS h o W N G) : RelF h o W := ⟨R.2.2.2.2.2.2.1, R.2.2.2.2.2.2.2.2.2.2.1, R.2.2.2.2.2.2.2.2.2.2.2.1⟩
def ftab (W : Nat → Int32) (c : Nat) (f : Nat → Int32) : Nat → Int32 := pu (pu (pu (pu (pu (pu (pu (pu (pu (pu (pu f 0 (fct W c 0)) 1 (fct W c 1)) 2 (fct W c 2)) 3 (fct W c 3)) 4 (fct W c 4)) 5 (fct W c 5)) 6 (fct W c 6)) 7 (fct W c 7)) 8 (fct W c 8)) 9 (fct W c 9)) 10 (fct W c 10)
theorem ftab_at {W : Nat → Int32} {c : Nat} {f : Nat → Int32} {k : Nat} (hk : k ≤ 10) : ftab W c f k = fct W c k := by
  unfold ftab
  rcases (show k = 0 ∨ k = 1 ∨ k = 2 ∨ k = 3 ∨ k = 4 ∨ k = 5 ∨ k = 6 ∨ k = 7 ∨ k = 8 ∨ k = 9 ∨ k = 10 by omega) with rfl | rfl | rfl | rfl | rfl | rfl | rfl | rfl | rfl | rfl | rfl
  all_goals simp (disch := omega) only [pu_eq, pu_ne]
set_option maxHeartbeats 2000000 in
theorem xL_lookAt {h : am_H} {o : Nat} {W : Nat → Int32} (ho : am_isS o) (ho2 : o + 22 ≤ 335) (R : RelF h o W) {c i : Nat} (hc : c < 8) (hi : i < 9) (ei : W (43 + 9 * c + 1) = (Int32.ofNat i)) (f : Nat → Int32) (d : Nat) : am_cl (d + 2) qL_lookAt [.ref 335, .ref o, .int (Int32.ofNat c)] (cw h 340 f) = some (.inl none, cw h 340 (ftab W c f)) := by
  obtain ⟨r7, r11, r12⟩ := R
  unfold ftab
  by_cases q1 : W (43 + 9 * c + 8) = -1
  · by_cases q2 : W (43 + 9 * c + 4) = (Int32.ofNat i)
    · by_cases q3 : i = 8
      · subst q3
        simp -implicitDefEqProofs (disch := (first | omega | assumption | exact am_isS_3 | exact am_isS_25 | exact am_isX_356 | exact am_isX_359)) only [uL_lookAt, ggL_lookAt_0, ggL_lookAt_1, ggL_lookAt_2, ggL_lookAt_3, ggL_lookAt_4, ggL_lookAt_5, ggL_lookAt_6, ggL_lookAt_7, ggL_lookAt_8, ggL_lookAt_9, ccL_lookAt_0_1, cw_ne, cw_up, r12, r11, r7, ei, rR_bc, q1, q2, k_340, n_340, fct_0, fct_1, fct_2, fct_3, fct_4, fct_5, fct_6, fct_7, fct_8, fct_9, fct_10, am_kI_x, am_kV_x, am_kI_i, am_nI_i, am_kV_i, am_nV_i, ↓reduceIte, eq_self, if_true, if_false, c_in, c_tn, pn_add, pn_mul, pn_subc, pn_addm, c_le_t, c_le_f, c_lt_t, c_lt_f, c_eq_f, c_eqm, bi_z, bi_1, bi_b, bi_T, bi_F, ite_not, up_eq, up_ne, or_self, or_true, true_or, or_false, false_or, and_true, true_and, and_self, not_true_eq_false, not_false_eq_true, Bool.false_eq_true]
      · simp -implicitDefEqProofs (disch := (first | omega | assumption | exact am_isS_3 | exact am_isS_25 | exact am_isX_356 | exact am_isX_359)) only [uL_lookAt, ggL_lookAt_0, ggL_lookAt_1, ggL_lookAt_2, ggL_lookAt_3, ggL_lookAt_4, ggL_lookAt_5, ggL_lookAt_6, ggL_lookAt_7, ggL_lookAt_8, ggL_lookAt_9, ccL_lookAt_0_1, cw_ne, cw_up, r12, r11, r7, ei, rR_bc, q1, q2, k_340, n_340, fct_0, fct_1, fct_2, fct_3, fct_4, fct_5, fct_6, fct_7, fct_8, fct_9, fct_10, am_kI_x, am_kV_x, am_kI_i, am_nI_i, am_kV_i, am_nV_i, ↓reduceIte, eq_self, if_true, if_false, c_in, c_tn, pn_add, pn_mul, pn_subc, pn_addm, c_le_t, c_le_f, c_lt_t, c_lt_f, c_eq_f, c_eqm, bi_z, bi_1, bi_b, bi_T, bi_F, ite_not, up_eq, up_ne, or_self, or_true, true_or, or_false, false_or, and_true, true_and, and_self, not_true_eq_false, not_false_eq_true, Bool.false_eq_true]
    · by_cases q3 : i = 8
      · subst q3
        simp -implicitDefEqProofs (disch := (first | omega | assumption | exact am_isS_3 | exact am_isS_25 | exact am_isX_356 | exact am_isX_359)) only [uL_lookAt, ggL_lookAt_0, ggL_lookAt_1, ggL_lookAt_2, ggL_lookAt_3, ggL_lookAt_4, ggL_lookAt_5, ggL_lookAt_6, ggL_lookAt_7, ggL_lookAt_8, ggL_lookAt_9, ccL_lookAt_0_1, cw_ne, cw_up, r12, r11, r7, ei, rR_bc, q1, q2, k_340, n_340, fct_0, fct_1, fct_2, fct_3, fct_4, fct_5, fct_6, fct_7, fct_8, fct_9, fct_10, am_kI_x, am_kV_x, am_kI_i, am_nI_i, am_kV_i, am_nV_i, ↓reduceIte, eq_self, if_true, if_false, c_in, c_tn, pn_add, pn_mul, pn_subc, pn_addm, c_le_t, c_le_f, c_lt_t, c_lt_f, c_eq_f, c_eqm, bi_z, bi_1, bi_b, bi_T, bi_F, ite_not, up_eq, up_ne, or_self, or_true, true_or, or_false, false_or, and_true, true_and, and_self, not_true_eq_false, not_false_eq_true, Bool.false_eq_true]
      · simp -implicitDefEqProofs (disch := (first | omega | assumption | exact am_isS_3 | exact am_isS_25 | exact am_isX_356 | exact am_isX_359)) only [uL_lookAt, ggL_lookAt_0, ggL_lookAt_1, ggL_lookAt_2, ggL_lookAt_3, ggL_lookAt_4, ggL_lookAt_5, ggL_lookAt_6, ggL_lookAt_7, ggL_lookAt_8, ggL_lookAt_9, ccL_lookAt_0_1, cw_ne, cw_up, r12, r11, r7, ei, rR_bc, q1, q2, k_340, n_340, fct_0, fct_1, fct_2, fct_3, fct_4, fct_5, fct_6, fct_7, fct_8, fct_9, fct_10, am_kI_x, am_kV_x, am_kI_i, am_nI_i, am_kV_i, am_nV_i, ↓reduceIte, eq_self, if_true, if_false, c_in, c_tn, pn_add, pn_mul, pn_subc, pn_addm, c_le_t, c_le_f, c_lt_t, c_lt_f, c_eq_f, c_eqm, bi_z, bi_1, bi_b, bi_T, bi_F, ite_not, up_eq, up_ne, or_self, or_true, true_or, or_false, false_or, and_true, true_and, and_self, not_true_eq_false, not_false_eq_true, Bool.false_eq_true]
  · by_cases q2 : W (43 + 9 * c + 4) = (Int32.ofNat i)
    · by_cases q3 : i = 8
      · subst q3
        simp -implicitDefEqProofs (disch := (first | omega | assumption | exact am_isS_3 | exact am_isS_25 | exact am_isX_356 | exact am_isX_359)) only [uL_lookAt, ggL_lookAt_0, ggL_lookAt_1, ggL_lookAt_2, ggL_lookAt_3, ggL_lookAt_4, ggL_lookAt_5, ggL_lookAt_6, ggL_lookAt_7, ggL_lookAt_8, ggL_lookAt_9, ccL_lookAt_0_1, cw_ne, cw_up, r12, r11, r7, ei, rR_bc, q1, q2, k_340, n_340, fct_0, fct_1, fct_2, fct_3, fct_4, fct_5, fct_6, fct_7, fct_8, fct_9, fct_10, am_kI_x, am_kV_x, am_kI_i, am_nI_i, am_kV_i, am_nV_i, ↓reduceIte, eq_self, if_true, if_false, c_in, c_tn, pn_add, pn_mul, pn_subc, pn_addm, c_le_t, c_le_f, c_lt_t, c_lt_f, c_eq_f, c_eqm, bi_z, bi_1, bi_b, bi_T, bi_F, ite_not, up_eq, up_ne, or_self, or_true, true_or, or_false, false_or, and_true, true_and, and_self, not_true_eq_false, not_false_eq_true, Bool.false_eq_true]
      · simp -implicitDefEqProofs (disch := (first | omega | assumption | exact am_isS_3 | exact am_isS_25 | exact am_isX_356 | exact am_isX_359)) only [uL_lookAt, ggL_lookAt_0, ggL_lookAt_1, ggL_lookAt_2, ggL_lookAt_3, ggL_lookAt_4, ggL_lookAt_5, ggL_lookAt_6, ggL_lookAt_7, ggL_lookAt_8, ggL_lookAt_9, ccL_lookAt_0_1, cw_ne, cw_up, r12, r11, r7, ei, rR_bc, q1, q2, k_340, n_340, fct_0, fct_1, fct_2, fct_3, fct_4, fct_5, fct_6, fct_7, fct_8, fct_9, fct_10, am_kI_x, am_kV_x, am_kI_i, am_nI_i, am_kV_i, am_nV_i, ↓reduceIte, eq_self, if_true, if_false, c_in, c_tn, pn_add, pn_mul, pn_subc, pn_addm, c_le_t, c_le_f, c_lt_t, c_lt_f, c_eq_f, c_eqm, bi_z, bi_1, bi_b, bi_T, bi_F, ite_not, up_eq, up_ne, or_self, or_true, true_or, or_false, false_or, and_true, true_and, and_self, not_true_eq_false, not_false_eq_true, Bool.false_eq_true]
    · by_cases q3 : i = 8
      · subst q3
        simp -implicitDefEqProofs (disch := (first | omega | assumption | exact am_isS_3 | exact am_isS_25 | exact am_isX_356 | exact am_isX_359)) only [uL_lookAt, ggL_lookAt_0, ggL_lookAt_1, ggL_lookAt_2, ggL_lookAt_3, ggL_lookAt_4, ggL_lookAt_5, ggL_lookAt_6, ggL_lookAt_7, ggL_lookAt_8, ggL_lookAt_9, ccL_lookAt_0_1, cw_ne, cw_up, r12, r11, r7, ei, rR_bc, q1, q2, k_340, n_340, fct_0, fct_1, fct_2, fct_3, fct_4, fct_5, fct_6, fct_7, fct_8, fct_9, fct_10, am_kI_x, am_kV_x, am_kI_i, am_nI_i, am_kV_i, am_nV_i, ↓reduceIte, eq_self, if_true, if_false, c_in, c_tn, pn_add, pn_mul, pn_subc, pn_addm, c_le_t, c_le_f, c_lt_t, c_lt_f, c_eq_f, c_eqm, bi_z, bi_1, bi_b, bi_T, bi_F, ite_not, up_eq, up_ne, or_self, or_true, true_or, or_false, false_or, and_true, true_and, and_self, not_true_eq_false, not_false_eq_true, Bool.false_eq_true]
      · simp -implicitDefEqProofs (disch := (first | omega | assumption | exact am_isS_3 | exact am_isS_25 | exact am_isX_356 | exact am_isX_359)) only [uL_lookAt, ggL_lookAt_0, ggL_lookAt_1, ggL_lookAt_2, ggL_lookAt_3, ggL_lookAt_4, ggL_lookAt_5, ggL_lookAt_6, ggL_lookAt_7, ggL_lookAt_8, ggL_lookAt_9, ccL_lookAt_0_1, cw_ne, cw_up, r12, r11, r7, ei, rR_bc, q1, q2, k_340, n_340, fct_0, fct_1, fct_2, fct_3, fct_4, fct_5, fct_6, fct_7, fct_8, fct_9, fct_10, am_kI_x, am_kV_x, am_kI_i, am_nI_i, am_kV_i, am_nV_i, ↓reduceIte, eq_self, if_true, if_false, c_in, c_tn, pn_add, pn_mul, pn_subc, pn_addm, c_le_t, c_le_f, c_lt_t, c_lt_f, c_eq_f, c_eqm, bi_z, bi_1, bi_b, bi_T, bi_F, ite_not, up_eq, up_ne, or_self, or_true, true_or, or_false, false_or, and_true, true_and, and_self, not_true_eq_false, not_false_eq_true, Bool.false_eq_true]
theorem xL_holds {h : am_H} {W : Nat → Int32} {c L : Nat} {E K : Nat → Nat} {n : Nat → Int32} (T : lawT W L E K n) (hF : ∀ k, k ≤ 10 → h.2 340 k = fct W c k) (hK : ∀ j, j < E L → cR (h.2 339 j) (K j) (n j)) {line : Nat} (hl : line < L) (g : Nat → Int32) (d : Nat) : ∃ g', am_cl (d + 2) qL_holds [.ref 335, .int (Int32.ofNat (E line)), .int (Int32.ofNat (E (line + 1)))] (cw h 341 g) = some (.inl (some (bi (hldb W c K n (E line) (E (line + 1)) = true))), cw h 341 g') := by
  have hE1 := T.le (i := line) (by omega)
  have hE2 := T.le (i := line + 1) (by omega)
  obtain ⟨t1, t2, t3, t4, t5, t6, t7, t8⟩ := T
  have hE := t5 line hl
  by_cases hq : E line = E (line + 1)
  · refine ⟨g, ?_⟩
    rw [← hq, hldb_eq]
    simp -implicitDefEqProofs (disch := (first | omega | assumption | exact am_isS_3 | exact am_isS_25 | exact am_isX_356 | exact am_isX_359)) only [uL_holds, ggL_holds_0, ggL_holds_1, ggL_holds_2, ggL_holds_4, ggL_holds_5, ggL_holds_6, ggL_holds_7, ggL_holds_8, ggL_holds_9, ggL_holds_10, ggL_holds_11, ggL_holds_12, ggL_holds_13, ggL_holds_14, ggL_holds_15, ggL_holds_16, ggL_holds_17, ggL_holds_18, ggL_holds_19, ggL_holds_20, ggL_holds_21, ggL_holds_22, ggL_holds_23, ccL_holds_17_1, am_kI_x, am_kV_x, am_kI_i, am_nI_i, am_kV_i, am_nV_i, ↓reduceIte, eq_self, if_true, if_false, c_in, c_tn, pn_add, pn_mul, pn_subc, pn_addm, c_le_t, c_le_f, c_lt_t, c_lt_f, c_eq_f, c_eqm, bi_z, bi_1, bi_b, bi_T, bi_F, ite_not, up_eq, up_ne, or_self, or_true, true_or, or_false, false_or, and_true, true_and, and_self, not_true_eq_false, not_false_eq_true, Bool.false_eq_true]
  · rw [hldb_ne hq]
    obtain ⟨g', e⟩ := xL_holds_l (h0 := h) (show E (line + 1) ≤ 400 by omega) hF (fun j hj => hK j (by omega)) d (E (line + 1) - E line) (E line) [] g (fun _ => (Int32.ofNat 0)) (by omega) ((t8 line hl).resolve_left hq) trivial (fun i hi => by simp at hi) (Int32.ofNat (E line)) .null
    refine ⟨g', ?_⟩
    simp -implicitDefEqProofs (disch := (first | omega | assumption | exact am_isS_3 | exact am_isS_25 | exact am_isX_356 | exact am_isX_359)) only [uL_holds, ggL_holds_0, ggL_holds_1, ggL_holds_2, ggL_holds_4, ggL_holds_5, ggL_holds_6, ggL_holds_7, ggL_holds_8, ggL_holds_9, ggL_holds_10, ggL_holds_11, ggL_holds_12, ggL_holds_13, ggL_holds_14, ggL_holds_15, ggL_holds_16, ggL_holds_17, ggL_holds_18, ggL_holds_19, ggL_holds_20, ggL_holds_21, ggL_holds_22, ggL_holds_23, ccL_holds_17_1, am_kI_x, am_kV_x, am_kI_i, am_nI_i, am_kV_i, am_nV_i, ↓reduceIte, eq_self, if_true, if_false, c_in, c_tn, pn_add, pn_mul, pn_subc, pn_addm, c_le_t, c_le_f, c_lt_t, c_lt_f, c_eq_f, c_eqm, bi_z, bi_1, bi_b, bi_T, bi_F, ite_not, up_eq, up_ne, or_self, or_true, true_or, or_false, false_or, and_true, true_and, and_self, not_true_eq_false, not_false_eq_true, Bool.false_eq_true]
    exact e
def camt (W : Nat → Int32) (i : Nat) : Int32 := if W (416 + 4 * i) = (Int32.ofNat 1) then - W (416 + 4 * i + 1) else W (416 + 4 * i + 1)
def csum (W : Nat → Int32) (c : Nat) (E K : Nat → Nat) (n : Nat → Int32) (b : Int32) (k j : Nat) (s : Int32) : Int32 := itr (fun i s => if bi (W (416 + 4 * i) = (Int32.ofNat 2)) = b ∧ hldb W c K n (E i) (E (i + 1)) = true then s + camt W i else s) k j s
theorem xL_sumOf_l {h : am_H} {W : Nat → Int32} {c L : Nat} {E K : Nat → Nat} {n : Nat → Int32} (T : lawT W L E K n) (C : lawC h 335 W L E K n) (hF : ∀ k, k ≤ 10 → h.2 340 k = fct W c k) (o : Nat) (ho : am_isS o) (b : Int32) (d : Nat) : ∀ (k j : Nat) (s : Int32) (g : Nat → Int32), j + k = L → ∃ g', am_go (am_cl (d + 2)) qL_sumOf 3 [.ref 335, .int b, .ref o, .int (Int32.ofNat c), .int s, .int (Int32.ofNat (E j)), .int (Int32.ofNat j)] [] (cw h 341 g) = some (.inl (some (csum W c E K n b k j s)), cw h 341 g') := by
  obtain ⟨c1, c2, c3⟩ := C
  have t1 := T.1
  intro k
  induction k with
  | zero =>
    intro j s g hj
    have ej : j = L := by omega
    subst ej
    refine ⟨g, ?_⟩
    rw [ggL_sumOf_3 _ _ _ _ _ _ _ ho]
    simp -implicitDefEqProofs (disch := (first | omega | assumption | exact am_isS_3 | exact am_isS_25 | exact am_isX_356 | exact am_isX_359)) only [ggL_sumOf_0, ggL_sumOf_1, ggL_sumOf_2, ggL_sumOf_4, ggL_sumOf_5, ggL_sumOf_6, ggL_sumOf_7, ggL_sumOf_8, ccL_sumOf_2_1, ccL_sumOf_5_1, cw_ne, c1, csum, itr, am_kI_x, am_kV_x, am_kI_i, am_nI_i, am_kV_i, am_nV_i, ↓reduceIte, eq_self, if_true, if_false, c_in, c_tn, pn_add, pn_mul, pn_subc, pn_addm, c_le_t, c_le_f, c_lt_t, c_lt_f, c_eq_f, c_eqm, bi_z, bi_1, bi_b, bi_T, bi_F, ite_not, up_eq, up_ne, or_self, or_true, true_or, or_false, false_or, and_true, true_and, and_self, not_true_eq_false, not_false_eq_true, Bool.false_eq_true]
  | succ k ih =>
    intro j s g hj
    obtain ⟨e3, e1, e2⟩ := c2 j (by omega)
    have e1 : h.2 336 j = bi (W (416 + 4 * j) = (Int32.ofNat 2)) := e1
    have e2 : h.2 337 j = camt W j := e2
    have e3 : h.2 338 j = (Int32.ofNat (E (j + 1))) := e3
    obtain ⟨g1, e4⟩ := xL_holds T hF c3 (line := j) (by omega) g d
    by_cases h1 : bi (W (416 + 4 * j) = (Int32.ofNat 2)) = b
    · by_cases h3 : hldb W c K n (E j) (E (j + 1)) = true
      · obtain ⟨g2, e5⟩ := ih (j + 1) (s + camt W j) g1 (by omega)
        refine ⟨g2, ?_⟩
        rw [ggL_sumOf_3 _ _ _ _ _ _ _ ho]
        unfold csum at e5 ⊢
        simp -implicitDefEqProofs (disch := (first | omega | assumption | exact am_isS_3 | exact am_isS_25 | exact am_isX_356 | exact am_isX_359)) only [ggL_sumOf_0, ggL_sumOf_1, ggL_sumOf_2, ggL_sumOf_4, ggL_sumOf_5, ggL_sumOf_6, ggL_sumOf_7, ggL_sumOf_8, ccL_sumOf_2_1, ccL_sumOf_5_1, cw_ne, c1, e1, e2, e3, h1, h3, e4, itr, am_kI_x, am_kV_x, am_kI_i, am_nI_i, am_kV_i, am_nV_i, ↓reduceIte, eq_self, if_true, if_false, c_in, c_tn, pn_add, pn_mul, pn_subc, pn_addm, c_le_t, c_le_f, c_lt_t, c_lt_f, c_eq_f, c_eqm, bi_z, bi_1, bi_b, bi_T, bi_F, ite_not, up_eq, up_ne, or_self, or_true, true_or, or_false, false_or, and_true, true_and, and_self, not_true_eq_false, not_false_eq_true, Bool.false_eq_true]
        exact e5
      · obtain ⟨g2, e5⟩ := ih (j + 1) s g1 (by omega)
        refine ⟨g2, ?_⟩
        rw [ggL_sumOf_3 _ _ _ _ _ _ _ ho]
        unfold csum at e5 ⊢
        simp -implicitDefEqProofs (disch := (first | omega | assumption | exact am_isS_3 | exact am_isS_25 | exact am_isX_356 | exact am_isX_359)) only [ggL_sumOf_0, ggL_sumOf_1, ggL_sumOf_2, ggL_sumOf_4, ggL_sumOf_5, ggL_sumOf_6, ggL_sumOf_7, ggL_sumOf_8, ccL_sumOf_2_1, ccL_sumOf_5_1, cw_ne, c1, e1, e2, e3, h1, h3, e4, itr, Bool.false_eq_true, am_kI_x, am_kV_x, am_kI_i, am_nI_i, am_kV_i, am_nV_i, ↓reduceIte, eq_self, if_true, if_false, c_in, c_tn, pn_add, pn_mul, pn_subc, pn_addm, c_le_t, c_le_f, c_lt_t, c_lt_f, c_eq_f, c_eqm, bi_z, bi_1, bi_b, bi_T, bi_F, ite_not, up_eq, up_ne, or_self, or_true, true_or, or_false, false_or, and_true, true_and, and_self, not_true_eq_false, not_false_eq_true, Bool.false_eq_true]
        exact e5
    · obtain ⟨g2, e5⟩ := ih (j + 1) s g (by omega)
      refine ⟨g2, ?_⟩
      rw [ggL_sumOf_3 _ _ _ _ _ _ _ ho]
      unfold csum at e5 ⊢
      simp -implicitDefEqProofs (disch := (first | omega | assumption | exact am_isS_3 | exact am_isS_25 | exact am_isX_356 | exact am_isX_359)) only [ggL_sumOf_0, ggL_sumOf_1, ggL_sumOf_2, ggL_sumOf_4, ggL_sumOf_5, ggL_sumOf_6, ggL_sumOf_7, ggL_sumOf_8, ccL_sumOf_2_1, ccL_sumOf_5_1, cw_ne, c1, e1, e2, e3, h1, itr, false_and, am_kI_x, am_kV_x, am_kI_i, am_nI_i, am_kV_i, am_nV_i, ↓reduceIte, eq_self, if_true, if_false, c_in, c_tn, pn_add, pn_mul, pn_subc, pn_addm, c_le_t, c_le_f, c_lt_t, c_lt_f, c_eq_f, c_eqm, bi_z, bi_1, bi_b, bi_T, bi_F, ite_not, up_eq, up_ne, or_self, or_true, true_or, or_false, false_or, and_true, true_and, and_self, not_true_eq_false, not_false_eq_true, Bool.false_eq_true]
      exact e5
