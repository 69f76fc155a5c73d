/-! what both readers do at a token -/
theorem xX_code {h : am_H} {x : Nat} (hx : am_isX x) {B : Nat → Nat} {E n a : Nat} (T : TV h x B E n) (ea : h.2 x 3 = (Int32.ofNat a)) (ha : a ≤ n) (d : Nat) : am_cl (d + 1) qX_code [.ref x] h = some (.inl (some (cdx B E a)), h) := by
  have hn := T.1
  have e1 := (T.2.2.2.2 a ha).1
  simp -implicitDefEqProofs (disch := (first | omega | assumption | exact am_isS_3 | exact am_isS_25 | exact am_isX_356 | exact am_isX_359)) only [uX_code, ggX_code_0, ea, e1, am_kI_x, am_kV_x, am_kI_i, am_nI_i, am_kV_i, am_nV_i, ↓reduceIte, eq_self, if_true, if_false, c_in, c_tn, pn_add, pn_mul, pn_subc, pn_addm, c_le_t, c_le_f, c_lt_t, c_lt_f, c_eq_f, c_eqm, bi_z, bi_1, bi_b, bi_T, bi_F, ite_not, up_eq, up_ne, or_self, or_true, true_or, or_false, false_or, and_true, true_and, and_self, not_true_eq_false, not_false_eq_true, Bool.false_eq_true]
theorem cdx_n {B : Nat → Nat} {E n : Nat} (h : stt B E n = E) : cdx B E n = -2 := by unfold cdx; rw [if_neg (by omega)]
theorem m2_ne {c : Nat} (hc : c < 2147483648) : ¬ (-2 : Int32) = (Int32.ofNat c) := fun q => by
  have := congrArg Int32.toInt q
  rw [pn_toInt hc] at this
  have h2 : ((-2 : Int32)).toInt = -2 := by decide
  omega
theorem TV_lt {h : am_H} {x : Nat} {B : Nat → Nat} {E n a c : Nat} (T : TV h x B E n) (ha : a ≤ n) (hc : c < 2147483648) (hq : cdx B E a = (Int32.ofNat c)) : a < n := by
  by_cases z : a = n
  · rw [z, cdx_n T.2.2.1] at hq
    exact absurd hq (m2_ne hc)
  · omega
theorem xX_take_t {h : am_H} {x : Nat} (hx : am_isX x) {B : Nat → Nat} {E n a c : Nat} (T : TV h x B E n) (ea : h.2 x 3 = (Int32.ofNat a)) (ha : a ≤ n) (hc : c < 2000) (hq : cdx B E a = (Int32.ofNat c)) (d : Nat) : am_cl (d + 1) qX_take [.ref x, .int (Int32.ofNat c)] h = some (.inl (some ((Int32.ofNat 1))), am_up h x 3 (Int32.ofNat (a + 1))) := by
  have hn := T.1
  have lt := TV_lt T ha (by omega) hq
  have e1 := (T.2.2.2.2 a ha).1
  rw [hq] at e1
  have e2 := T.2.1
  simp -implicitDefEqProofs (disch := (first | omega | assumption | exact am_isS_3 | exact am_isS_25 | exact am_isX_356 | exact am_isX_359)) only [uX_take, ggX_take_0, ggX_take_1, ggX_take_2, ggX_take_3, ea, e1, e2, am_kI_x, am_kV_x, am_kI_i, am_nI_i, am_kV_i, am_nV_i, ↓reduceIte, eq_self, if_true, if_false, c_in, c_tn, pn_add, pn_mul, pn_subc, pn_addm, c_le_t, c_le_f, c_lt_t, c_lt_f, c_eq_f, c_eqm, bi_z, bi_1, bi_b, bi_T, bi_F, ite_not, up_eq, up_ne, or_self, or_true, true_or, or_false, false_or, and_true, true_and, and_self, not_true_eq_false, not_false_eq_true, Bool.false_eq_true]
theorem xX_take_f {h : am_H} {x : Nat} (hx : am_isX x) {B : Nat → Nat} {E n a c : Nat} (T : TV h x B E n) (ea : h.2 x 3 = (Int32.ofNat a)) (ha : a ≤ n) (hq : ¬ cdx B E a = (Int32.ofNat c)) (d : Nat) : am_cl (d + 1) qX_take [.ref x, .int (Int32.ofNat c)] h = some (.inl (some ((Int32.ofNat 0))), h) := by
  have hn := T.1
  have e1 := (T.2.2.2.2 a ha).1
  have e2 := T.2.1
  by_cases lt : a < n
  · simp -implicitDefEqProofs (disch := (first | omega | assumption | exact am_isS_3 | exact am_isS_25 | exact am_isX_356 | exact am_isX_359)) only [uX_take, ggX_take_0, ggX_take_1, ggX_take_2, ggX_take_3, ea, e1, e2, hq, am_kI_x, am_kV_x, am_kI_i, am_nI_i, am_kV_i, am_nV_i, ↓reduceIte, eq_self, if_true, if_false, c_in, c_tn, pn_add, pn_mul, pn_subc, pn_addm, c_le_t, c_le_f, c_lt_t, c_lt_f, c_eq_f, c_eqm, bi_z, bi_1, bi_b, bi_T, bi_F, ite_not, up_eq, up_ne, or_self, or_true, true_or, or_false, false_or, and_true, true_and, and_self, not_true_eq_false, not_false_eq_true, Bool.false_eq_true]
  · simp -implicitDefEqProofs (disch := (first | omega | assumption | exact am_isS_3 | exact am_isS_25 | exact am_isX_356 | exact am_isX_359)) only [uX_take, ggX_take_0, ggX_take_1, ggX_take_2, ggX_take_3, ea, e2, am_kI_x, am_kV_x, am_kI_i, am_nI_i, am_kV_i, am_nV_i, ↓reduceIte, eq_self, if_true, if_false, c_in, c_tn, pn_add, pn_mul, pn_subc, pn_addm, c_le_t, c_le_f, c_lt_t, c_lt_f, c_eq_f, c_eqm, bi_z, bi_1, bi_b, bi_T, bi_F, ite_not, up_eq, up_ne, or_self, or_true, true_or, or_false, false_or, and_true, true_and, and_self, not_true_eq_false, not_false_eq_true, Bool.false_eq_true]
theorem xX_step {h : am_H} {x : Nat} (hx : am_isX x) {B : Nat → Nat} {E n a : Nat} (T : TV h x B E n) (ea : h.2 x 3 = (Int32.ofNat a)) (ha : a < n) (d : Nat) : am_cl (d + 1) qX_step [.ref x] h = some (.inl none, am_up h x 3 (Int32.ofNat (a + 1))) := by
  have hn := T.1
  have e2 := T.2.1
  simp -implicitDefEqProofs (disch := (first | omega | assumption | exact am_isS_3 | exact am_isS_25 | exact am_isX_356 | exact am_isX_359)) only [uX_step, ggX_step_0, ggX_step_1, ggX_step_2, ea, e2, am_kI_x, am_kV_x, am_kI_i, am_nI_i, am_kV_i, am_nV_i, ↓reduceIte, eq_self, if_true, if_false, c_in, c_tn, pn_add, pn_mul, pn_subc, pn_addm, c_le_t, c_le_f, c_lt_t, c_lt_f, c_eq_f, c_eqm, bi_z, bi_1, bi_b, bi_T, bi_F, ite_not, up_eq, up_ne, or_self, or_true, true_or, or_false, false_or, and_true, true_and, and_self, not_true_eq_false, not_false_eq_true, Bool.false_eq_true]
theorem TV.up {h : am_H} {x : Nat} {B : Nat → Nat} {E n o i : Nat} {v : Int32} (T : TV h x B E n) (ho : o ≠ x ∧ o ≠ x + 1 ∧ o ≠ x + 2 ∨ o = x ∧ i ≠ 2) : TV (am_up h o i v) x B E n := by
  obtain ⟨a, b, c, e, f⟩ := T
  exact ⟨a, by rw [up_ne (by omega)]; exact b, c, e, fun j hj => by rw [up_ne (by omega), up_ne (by omega)]; exact f j hj⟩
theorem TV.of {h h' : am_H} {x : Nat} {B : Nat → Nat} {E n : Nat} (T : TV h x B E n) (f0 : h'.2 x 2 = h.2 x 2) (f1 : h'.2 (x + 1) = h.2 (x + 1)) (f2 : h'.2 (x + 2) = h.2 (x + 2)) : TV h' x B E n := by
  obtain ⟨a, b, c, e, f⟩ := T
  exact ⟨a, by rw [f0]; exact b, c, e, fun j hj => by rw [f1, f2]; exact f j hj⟩
/-- a number there of at most so much, or -1 -/
def nvI (B : Nat → Nat) (E a : Nat) (m : Int32) : Int32 := if cdx B E a < (Int32.ofNat 0) then -1 else if (Int32.ofNat 1000) ≤ cdx B E a then -1 else if m < cdx B E a then -1 else cdx B E a
theorem xX_number {h : am_H} {x : Nat} (hx : am_isX x) {B : Nat → Nat} {E n a : Nat} (T : TV h x B E n) (ea : h.2 x 3 = (Int32.ofNat a)) (ha : a ≤ n) (m : Int32) (d : Nat) : am_cl (d + 1) qX_number [.ref x, .int m] h = some (.inl (some (nvI B E a m)), h) := by
  have hn := T.1
  have e1 := (T.2.2.2.2 a ha).1
  unfold nvI
  by_cases h1 : cdx B E a < (Int32.ofNat 0)
  · rw [if_pos h1]
    simp -implicitDefEqProofs (disch := (first | omega | assumption | exact am_isS_3 | exact am_isS_25 | exact am_isX_356 | exact am_isX_359)) only [uX_number, ggX_number_0, ggX_number_1, ggX_number_2, ggX_number_3, ggX_number_4, ggX_number_5, ea, e1, h1, am_kI_x, am_kV_x, am_kI_i, am_nI_i, am_kV_i, am_nV_i, ↓reduceIte, eq_self, if_true, if_false, c_in, c_tn, pn_add, pn_mul, pn_subc, pn_addm, c_le_t, c_le_f, c_lt_t, c_lt_f, c_eq_f, c_eqm, bi_z, bi_1, bi_b, bi_T, bi_F, ite_not, up_eq, up_ne, or_self, or_true, true_or, or_false, false_or, and_true, true_and, and_self, not_true_eq_false, not_false_eq_true, Bool.false_eq_true]
  · rw [if_neg h1]
    by_cases h2 : (Int32.ofNat 1000) ≤ cdx B E a
    · rw [if_pos h2]
      simp -implicitDefEqProofs (disch := (first | omega | assumption | exact am_isS_3 | exact am_isS_25 | exact am_isX_356 | exact am_isX_359)) only [uX_number, ggX_number_0, ggX_number_1, ggX_number_2, ggX_number_3, ggX_number_4, ggX_number_5, ea, e1, h1, h2, am_kI_x, am_kV_x, am_kI_i, am_nI_i, am_kV_i, am_nV_i, ↓reduceIte, eq_self, if_true, if_false, c_in, c_tn, pn_add, pn_mul, pn_subc, pn_addm, c_le_t, c_le_f, c_lt_t, c_lt_f, c_eq_f, c_eqm, bi_z, bi_1, bi_b, bi_T, bi_F, ite_not, up_eq, up_ne, or_self, or_true, true_or, or_false, false_or, and_true, true_and, and_self, not_true_eq_false, not_false_eq_true, Bool.false_eq_true]
    · rw [if_neg h2]
      by_cases h3 : m < cdx B E a
      · rw [if_pos h3]
        simp -implicitDefEqProofs (disch := (first | omega | assumption | exact am_isS_3 | exact am_isS_25 | exact am_isX_356 | exact am_isX_359)) only [uX_number, ggX_number_0, ggX_number_1, ggX_number_2, ggX_number_3, ggX_number_4, ggX_number_5, ea, e1, h1, h2, h3, am_kI_x, am_kV_x, am_kI_i, am_nI_i, am_kV_i, am_nV_i, ↓reduceIte, eq_self, if_true, if_false, c_in, c_tn, pn_add, pn_mul, pn_subc, pn_addm, c_le_t, c_le_f, c_lt_t, c_lt_f, c_eq_f, c_eqm, bi_z, bi_1, bi_b, bi_T, bi_F, ite_not, up_eq, up_ne, or_self, or_true, true_or, or_false, false_or, and_true, true_and, and_self, not_true_eq_false, not_false_eq_true, Bool.false_eq_true]
      · rw [if_neg h3]
        simp -implicitDefEqProofs (disch := (first | omega | assumption | exact am_isS_3 | exact am_isS_25 | exact am_isX_356 | exact am_isX_359)) only [uX_number, ggX_number_0, ggX_number_1, ggX_number_2, ggX_number_3, ggX_number_4, ggX_number_5, ea, e1, h1, h2, h3, am_kI_x, am_kV_x, am_kI_i, am_nI_i, am_kV_i, am_nV_i, ↓reduceIte, eq_self, if_true, if_false, c_in, c_tn, pn_add, pn_mul, pn_subc, pn_addm, c_le_t, c_le_f, c_lt_t, c_lt_f, c_eq_f, c_eqm, bi_z, bi_1, bi_b, bi_T, bi_F, ite_not, up_eq, up_ne, or_self, or_true, true_or, or_false, false_or, and_true, true_and, and_self, not_true_eq_false, not_false_eq_true, Bool.false_eq_true]
/-- a thing's letter there, or -1 -/
def ltI (B : Nat → Nat) (E a : Nat) : Int32 := if cdx B E a - (Int32.ofNat 1100) < (Int32.ofNat 0) then -1 else if (Int32.ofNat 8) ≤ cdx B E a - (Int32.ofNat 1100) then -1 else cdx B E a - (Int32.ofNat 1100)
theorem xX_letter {h : am_H} {x : Nat} (hx : am_isX x) {B : Nat → Nat} {E n a : Nat} (T : TV h x B E n) (ea : h.2 x 3 = (Int32.ofNat a)) (ha : a ≤ n) (d : Nat) : am_cl (d + 1) qX_letter [.ref x] h = some (.inl (some (ltI B E a)), h) := by
  have hn := T.1
  have e1 := (T.2.2.2.2 a ha).1
  unfold ltI
  by_cases h1 : cdx B E a - (Int32.ofNat 1100) < (Int32.ofNat 0)
  · rw [if_pos h1]
    simp -implicitDefEqProofs (disch := (first | omega | assumption | exact am_isS_3 | exact am_isS_25 | exact am_isX_356 | exact am_isX_359)) only [uX_letter, ggX_letter_0, ggX_letter_1, ggX_letter_2, ggX_letter_3, ggX_letter_4, ea, e1, h1, am_kI_x, am_kV_x, am_kI_i, am_nI_i, am_kV_i, am_nV_i, ↓reduceIte, eq_self, if_true, if_false, c_in, c_tn, pn_add, pn_mul, pn_subc, pn_addm, c_le_t, c_le_f, c_lt_t, c_lt_f, c_eq_f, c_eqm, bi_z, bi_1, bi_b, bi_T, bi_F, ite_not, up_eq, up_ne, or_self, or_true, true_or, or_false, false_or, and_true, true_and, and_self, not_true_eq_false, not_false_eq_true, Bool.false_eq_true]
  · rw [if_neg h1]
    by_cases h2 : (Int32.ofNat 8) ≤ cdx B E a - (Int32.ofNat 1100)
    · rw [if_pos h2]
      simp -implicitDefEqProofs (disch := (first | omega | assumption | exact am_isS_3 | exact am_isS_25 | exact am_isX_356 | exact am_isX_359)) only [uX_letter, ggX_letter_0, ggX_letter_1, ggX_letter_2, ggX_letter_3, ggX_letter_4, ea, e1, h1, h2, am_kI_x, am_kV_x, am_kI_i, am_nI_i, am_kV_i, am_nV_i, ↓reduceIte, eq_self, if_true, if_false, c_in, c_tn, pn_add, pn_mul, pn_subc, pn_addm, c_le_t, c_le_f, c_lt_t, c_lt_f, c_eq_f, c_eqm, bi_z, bi_1, bi_b, bi_T, bi_F, ite_not, up_eq, up_ne, or_self, or_true, true_or, or_false, false_or, and_true, true_and, and_self, not_true_eq_false, not_false_eq_true, Bool.false_eq_true]
    · rw [if_neg h2]
      simp -implicitDefEqProofs (disch := (first | omega | assumption | exact am_isS_3 | exact am_isS_25 | exact am_isX_356 | exact am_isX_359)) only [uX_letter, ggX_letter_0, ggX_letter_1, ggX_letter_2, ggX_letter_3, ggX_letter_4, ea, e1, h1, h2, am_kI_x, am_kV_x, am_kI_i, am_nI_i, am_kV_i, am_nV_i, ↓reduceIte, eq_self, if_true, if_false, c_in, c_tn, pn_add, pn_mul, pn_subc, pn_addm, c_le_t, c_le_f, c_lt_t, c_lt_f, c_eq_f, c_eqm, bi_z, bi_1, bi_b, bi_T, bi_F, ite_not, up_eq, up_ne, or_self, or_true, true_or, or_false, false_or, and_true, true_and, and_self, not_true_eq_false, not_false_eq_true, Bool.false_eq_true]
/-! what a code can be -/
theorem cdx_cases {B : Nat → Nat} {E a : Nat} (hB : ∀ i, i < E → B i < 256) : (stt B E a = E ∧ cdx B E a = -2) ∨ stt B E a < E ∧ ((isDg (B (stt B E a)) = true ∧ te B E (stt B E a) = rn isDg B E (stt B E a) ∧ (te B E (stt B E a) - stt B E a ≤ 3 ∧ (∃ v, v < 1000 ∧ v = numV B (stt B E a) (te B E (stt B E a) - stt B E a) ∧ cdx B E a = (Int32.ofNat v)) ∨ ¬ te B E (stt B E a) - stt B E a ≤ 3 ∧ cdx B E a = -1)) ∨ (isLt (B (stt B E a)) = true ∧ te B E (stt B E a) = rn isLt B E (stt B E a) ∧ (te B E (stt B E a) - stt B E a = 1 ∧ B (stt B E a) < 105 ∧ cdx B E a = (Int32.ofNat (1100 + (B (stt B E a) - 97))) ∨ te B E (stt B E a) - stt B E a = 1 ∧ ¬ B (stt B E a) < 105 ∧ cdx B E a = -1 ∨ te B E (stt B E a) - stt B E a ≠ 1 ∧ ((∃ f, f < 23 ∧ cdx B E a = (Int32.ofNat (1000 + f))) ∨ cdx B E a = -1))) ∨ (isDg (B (stt B E a)) = false ∧ isLt (B (stt B E a)) = false ∧ te B E (stt B E a) = stt B E a + 1 ∧ cdx B E a = (Int32.ofNat (1200 + B (stt B E a))))) := by
  by_cases hs : stt B E a < E
  · refine Or.inr ⟨hs, ?_⟩
    have hb := hB _ hs
    have t := te_at (B := B) hs
    unfold cdx
    rw [if_pos hs]
    generalize stt B E a = s at *
    by_cases h1 : isDg (B s) = true
    · have h2 : isLt (B s) = false := by
        cases hh : isLt (B s) with
        | false => rfl
        | true => rw [lt_dg hh] at h1; exact absurd h1 (by decide)
      have et : te B E s = rn isDg B E s := by unfold te; rw [h2, if_neg (by decide), if_pos h1]
      refine Or.inl ⟨h1, et, ?_⟩
      unfold cd
      rw [if_pos h1]
      by_cases h3 : te B E s - s ≤ 3
      · rw [if_pos h3]
        have nl := numV_lt (B := B) (p := s) (te B E s - s) (fun i hi => (rn_at (q := isDg) (B := B) (E := E) (p := s) (by omega)).2.2.1 (s + i) (by omega) (by rw [← et]; omega))
        have pj : 10 ^ (te B E s - s) ≤ 10 ^ 3 := Nat.pow_le_pow_right (by omega) h3
        exact Or.inl ⟨h3, _, by omega, rfl, rfl⟩
      · rw [if_neg h3]
        exact Or.inr ⟨h3, rfl⟩
    · refine Or.inr ?_
      unfold cd
      rw [if_neg h1]
      by_cases h2 : isLt (B s) = true
      · have et : te B E s = rn isLt B E s := by unfold te; rw [if_pos h2]
        refine Or.inl ⟨h2, et, ?_⟩
        rw [if_pos h2]
        by_cases h3 : te B E s - s = 1
        · rw [if_pos h3]
          by_cases h4 : B s < 105
          · rw [if_pos h4]; exact Or.inl ⟨h3, h4, rfl⟩
          · rw [if_neg h4]; exact Or.inr (Or.inl ⟨h3, h4, rfl⟩)
        · rw [if_neg h3]
          refine Or.inr (Or.inr ⟨h3, ?_⟩)
          by_cases ha : anyN (fun f => tokIs B f s (te B E s - s)) 23 = true
          · rw [if_pos ha]
            exact Or.inl ⟨_, (fo_at ha).1, rfl⟩
          · rw [if_neg ha]; exact Or.inr rfl
      · rw [if_neg h2]
        exact Or.inr ⟨Bool.eq_false_iff.mpr h1, Bool.eq_false_iff.mpr h2, by unfold te; rw [if_neg h2, if_neg h1], rfl⟩
  · have := stt_le (B := B) (E := E) a
    refine Or.inl ⟨by omega, ?_⟩
    unfold cdx
    rw [if_neg hs]
/-! the reference: its point and begin -/
def rs (h : am_H) (p b : Nat) : am_H := am_up (am_up h 373 10 (Int32.ofNat p)) 373 12 (Int32.ofNat b)
theorem rs_p {h : am_H} {p b : Nat} : (rs h p b).2 373 10 = (Int32.ofNat p) := by unfold rs; rw [up_ne (by omega)]; exact up_eq rfl rfl
theorem rs_b {h : am_H} {p b : Nat} : (rs h p b).2 373 12 = (Int32.ofNat b) := by unfold rs; exact up_eq rfl rfl
theorem rs_ne {h : am_H} {p b o i : Nat} (hn : o ≠ 373 ∨ i ≠ 10 ∧ i ≠ 12) : (rs h p b).2 o i = h.2 o i := by unfold rs; rw [up_ne (by omega), up_ne (by omega)]
theorem rs_o {h : am_H} {p b o : Nat} (hn : o ≠ 373) : (rs h p b).2 o = h.2 o := by unfold rs; rw [up_o hn, up_o hn]
theorem rs_10 {h : am_H} {p b : Nat} {p' : Nat} : am_up (rs h p b) 373 10 (Int32.ofNat p') = rs h p' b := by unfold rs; rw [up_comm (by omega), up_same]
theorem rs_12 {h : am_H} {p b : Nat} {b' : Nat} : am_up (rs h p b) 373 12 (Int32.ofNat b') = rs h p b' := by unfold rs; rw [up_same]
theorem rs_up {h : am_H} {p b o i : Nat} {v : Int32} (hn : o ≠ 373 ∨ i ≠ 10 ∧ i ≠ 12) : am_up (rs h p b) o i v = rs (am_up h o i v) p b := by
  unfold rs
  rw [up_comm (o := 373) (i := 12) (by omega), up_comm (o := 373) (i := 10) (by omega)]
def rtp (h : am_H) (B : Nat → Nat) (E : Nat) : Prop := E ≤ 400 ∧ h.2 373 11 = (Int32.ofNat E) ∧ ∀ i, i < 400 → B i < 256 ∧ h.2 379 i = ((Int32.ofNat (B i))).toInt8.toInt32
theorem rtp.up {h : am_H} {B : Nat → Nat} {E o i : Nat} {v : Int32} (T : rtp h B E) (hn : o ≠ 379 ∧ (o ≠ 373 ∨ i ≠ 11)) : rtp (am_up h o i v) B E := by
  obtain ⟨a, b, c⟩ := T
  exact ⟨a, by rw [up_ne (by omega)]; exact b, fun i hi => by rw [up_o (by omega)]; exact c i hi⟩
theorem rtp.of {h h' : am_H} {B : Nat → Nat} {E : Nat} (T : rtp h B E) (f : h'.2 373 11 = h.2 373 11) (g : h'.2 379 = h.2 379) : rtp h' B E := by
  obtain ⟨a, b, c⟩ := T
  exact ⟨a, f.trans b, fun i hi => by rw [g]; exact c i hi⟩
theorem rtp.rs {h : am_H} {B : Nat → Nat} {E p b : Nat} (T : rtp h B E) : rtp (rs h p b) B E := T.of (rs_ne (by omega)) (rs_o (by omega))
theorem rR_isAt {h : am_H} {B : Nat → Nat} {E p b lo hi : Nat} (T : rtp h B E) (hp : p ≤ E) (hlo : lo < 128) (hhi : hi < 128) (d : Nat) : am_cl (d + 1) qR_isAt [.ref 373, .int (Int32.ofNat lo), .int (Int32.ofNat hi)] (rs h p b) = some (.inl (some (bi (p < E ∧ lo ≤ B p ∧ B p ≤ hi))), rs h p b) := by
  obtain ⟨hE, e1, eb⟩ := T
  have e11 : (rs h p b).2 373 11 = (Int32.ofNat E) := by rw [rs_ne (by omega)]; exact e1
  have e10 : (rs h p b).2 373 10 = (Int32.ofNat p) := rs_p
  by_cases hpE : p < E
  · obtain ⟨b1, b2⟩ := eb p (by omega)
    have eb : (rs h p b).2 379 p = ((Int32.ofNat (B p))).toInt8.toInt32 := by rw [rs_o (by omega)]; exact b2
    have cl : (((Int32.ofNat (B p))).toInt8.toInt32 < (Int32.ofNat lo)) = (B p < lo ∨ 128 ≤ B p) := by
      apply propext
      rcases sbt_at b1 with ⟨q1, q2⟩ | ⟨q1, q2⟩
      · rw [q2, pn_lt (by omega) (by omega)]
        exact ⟨Or.inl, fun z => z.resolve_right (by omega)⟩
      · refine ⟨fun _ => Or.inr q1, fun _ => ?_⟩
        rw [Int32.lt_iff_toInt_lt] at q2 ⊢
        rw [pn_toInt (by omega)]
        have h0 : ((Int32.ofNat 0) : Int32).toInt = 0 := by decide
        omega
    have ch : B p < 128 → ((Int32.ofNat hi) < ((Int32.ofNat (B p))).toInt8.toInt32) = (hi < B p) := fun z => by
      apply propext
      rcases sbt_at b1 with ⟨q1, q2⟩ | ⟨q1, q2⟩
      · rw [q2, pn_lt (by omega) (by omega)]
      · omega
    by_cases h1 : B p < lo ∨ 128 ≤ B p
    · rw [bi_f (fun z => by omega)]
      simp -implicitDefEqProofs (disch := (first | omega | assumption | exact am_isS_3 | exact am_isS_25 | exact am_isX_356 | exact am_isX_359)) only [uR_isAt, ggR_isAt_0, ggR_isAt_1, ggR_isAt_2, ggR_isAt_3, ggR_isAt_4, ggR_isAt_5, e11, e10, eb, cl, h1, am_kI_x, am_kV_x, am_kI_i, am_nI_i, am_kV_i, am_nV_i, ↓reduceIte, eq_self, if_true, if_false, c_in, c_tn, pn_add, pn_mul, pn_subc, pn_addm, c_le_t, c_le_f, c_lt_t, c_lt_f, c_eq_f, c_eqm, bi_z, bi_1, bi_b, bi_T, bi_F, ite_not, up_eq, up_ne, or_self, or_true, true_or, or_false, false_or, and_true, true_and, and_self, not_true_eq_false, not_false_eq_true, Bool.false_eq_true]
    · have ch := ch (by omega)
      by_cases h2 : hi < B p
      · rw [bi_f (fun z => by omega)]
        simp -implicitDefEqProofs (disch := (first | omega | assumption | exact am_isS_3 | exact am_isS_25 | exact am_isX_356 | exact am_isX_359)) only [uR_isAt, ggR_isAt_0, ggR_isAt_1, ggR_isAt_2, ggR_isAt_3, ggR_isAt_4, ggR_isAt_5, e11, e10, eb, cl, h1, ch, h2, am_kI_x, am_kV_x, am_kI_i, am_nI_i, am_kV_i, am_nV_i, ↓reduceIte, eq_self, if_true, if_false, c_in, c_tn, pn_add, pn_mul, pn_subc, pn_addm, c_le_t, c_le_f, c_lt_t, c_lt_f, c_eq_f, c_eqm, bi_z, bi_1, bi_b, bi_T, bi_F, ite_not, up_eq, up_ne, or_self, or_true, true_or, or_false, false_or, and_true, true_and, and_self, not_true_eq_false, not_false_eq_true, Bool.false_eq_true]
      · rw [bi_t ⟨hpE, by omega, by omega⟩]
        simp -implicitDefEqProofs (disch := (first | omega | assumption | exact am_isS_3 | exact am_isS_25 | exact am_isX_356 | exact am_isX_359)) only [uR_isAt, ggR_isAt_0, ggR_isAt_1, ggR_isAt_2, ggR_isAt_3, ggR_isAt_4, ggR_isAt_5, e11, e10, eb, cl, h1, ch, h2, am_kI_x, am_kV_x, am_kI_i, am_nI_i, am_kV_i, am_nV_i, ↓reduceIte, eq_self, if_true, if_false, c_in, c_tn, pn_add, pn_mul, pn_subc, pn_addm, c_le_t, c_le_f, c_lt_t, c_lt_f, c_eq_f, c_eqm, bi_z, bi_1, bi_b, bi_T, bi_F, ite_not, up_eq, up_ne, or_self, or_true, true_or, or_false, false_or, and_true, true_and, and_self, not_true_eq_false, not_false_eq_true, Bool.false_eq_true]
  · rw [bi_f (fun z => hpE z.1)]
    simp -implicitDefEqProofs (disch := (first | omega | assumption | exact am_isS_3 | exact am_isS_25 | exact am_isX_356 | exact am_isX_359)) only [uR_isAt, ggR_isAt_0, ggR_isAt_1, ggR_isAt_2, ggR_isAt_3, ggR_isAt_4, ggR_isAt_5, e11, e10, am_kI_x, am_kV_x, am_kI_i, am_nI_i, am_kV_i, am_nV_i, ↓reduceIte, eq_self, if_true, if_false, c_in, c_tn, pn_add, pn_mul, pn_subc, pn_addm, c_le_t, c_le_f, c_lt_t, c_lt_f, c_eq_f, c_eqm, bi_z, bi_1, bi_b, bi_T, bi_F, ite_not, up_eq, up_ne, or_self, or_true, true_or, or_false, false_or, and_true, true_and, and_self, not_true_eq_false, not_false_eq_true, Bool.false_eq_true]
theorem rR_blanks {h : am_H} {B : Nat → Nat} {E : Nat} (T : rtp h B E) (b : Nat) (d : Nat) : ∀ k p, p + k = E → am_cl (d + 2) qR_blanks [.ref 373] (rs h p b) = some (.inl none, rs h (nb B E p) (nb B E p)) := by
  have hE := T.1
  have l : ∀ k p, p + k = E → am_go (am_cl (d + 1)) qR_blanks 0 [.ref 373] [] (rs h p b) = some (.inl none, rs h (nb B E p) (nb B E p)) := by
    intro k
    induction k with
    | zero =>
      intro p hp
      have ea := fun d => rR_isAt (b := b) T (p := p) (lo := 32) (hi := 32) (by omega) (by omega) (by omega) d
      simp only [bi_f (show ¬ (p < E ∧ 32 ≤ B p ∧ B p ≤ 32) from fun z => by omega)] at ea
      have en : nb B E p = p := rn_no (by omega)
      rw [en, ggR_blanks_0]
      simp -implicitDefEqProofs (disch := (first | omega | assumption | exact am_isS_3 | exact am_isS_25 | exact am_isX_356 | exact am_isX_359)) only [ggR_blanks_1, ggR_blanks_2, ccR_blanks_0_1, ea, rs_p, rs_12, am_kI_x, am_kV_x, am_kI_i, am_nI_i, am_kV_i, am_nV_i, ↓reduceIte, eq_self, if_true, if_false, c_in, c_tn, pn_add, pn_mul, pn_subc, pn_addm, c_le_t, c_le_f, c_lt_t, c_lt_f, c_eq_f, c_eqm, bi_z, bi_1, bi_b, bi_T, bi_F, ite_not, up_eq, up_ne, or_self, or_true, true_or, or_false, false_or, and_true, true_and, and_self, not_true_eq_false, not_false_eq_true, Bool.false_eq_true]
    | succ k ih =>
      intro p hp
      have ea := fun d => rR_isAt (b := b) T (p := p) (lo := 32) (hi := 32) (by omega) (by omega) (by omega) d
      by_cases hb : B p = 32
      · have ih := ih (p + 1) (by omega)
        have en : nb B E p = nb B E (p + 1) := rn_go (by omega) (decide_eq_true hb)
        simp only [bi_t (show (p < E ∧ 32 ≤ B p ∧ B p ≤ 32) from ⟨by omega, by omega, by omega⟩)] at ea
        rw [en, ggR_blanks_0]
        simp -implicitDefEqProofs (disch := (first | omega | assumption | exact am_isS_3 | exact am_isS_25 | exact am_isX_356 | exact am_isX_359)) only [ggR_blanks_1, ggR_blanks_2, ccR_blanks_0_1, ea, rs_p, rs_10, am_kI_x, am_kV_x, am_kI_i, am_nI_i, am_kV_i, am_nV_i, ↓reduceIte, eq_self, if_true, if_false, c_in, c_tn, pn_add, pn_mul, pn_subc, pn_addm, c_le_t, c_le_f, c_lt_t, c_lt_f, c_eq_f, c_eqm, bi_z, bi_1, bi_b, bi_T, bi_F, ite_not, up_eq, up_ne, or_self, or_true, true_or, or_false, false_or, and_true, true_and, and_self, not_true_eq_false, not_false_eq_true, Bool.false_eq_true]
        exact ih
      · have en : nb B E p = p := rn_no (fun z => hb (of_decide_eq_true z.2))
        simp only [bi_f (show ¬ (p < E ∧ 32 ≤ B p ∧ B p ≤ 32) from fun z => by omega)] at ea
        rw [en, ggR_blanks_0]
        simp -implicitDefEqProofs (disch := (first | omega | assumption | exact am_isS_3 | exact am_isS_25 | exact am_isX_356 | exact am_isX_359)) only [ggR_blanks_1, ggR_blanks_2, ccR_blanks_0_1, ea, rs_p, rs_12, am_kI_x, am_kV_x, am_kI_i, am_nI_i, am_kV_i, am_nV_i, ↓reduceIte, eq_self, if_true, if_false, c_in, c_tn, pn_add, pn_mul, pn_subc, pn_addm, c_le_t, c_le_f, c_lt_t, c_lt_f, c_eq_f, c_eqm, bi_z, bi_1, bi_b, bi_T, bi_F, ite_not, up_eq, up_ne, or_self, or_true, true_or, or_false, false_or, and_true, true_and, and_self, not_true_eq_false, not_false_eq_true, Bool.false_eq_true]
  intro k p hp
  rw [uR_blanks]
  exact l k p hp
theorem rR_letters {h : am_H} {B : Nat → Nat} {E p : Nat} (T : rtp h B E) (hp : p ≤ E) (b : Nat) (d : Nat) : am_cl (d + 3) qR_letters [.ref 373] (rs h p b) = some (.inl none, rs h (rn isLt B E (nb B E p)) (nb B E p)) := by
  have hE := T.1
  have hb := nb_le (B := B) hp
  generalize hs : nb B E p = s at *
  have l : ∀ k j, j + k = E → am_go (am_cl (d + 2)) qR_letters 1 [.ref 373] [] (rs h j s) = some (.inl none, rs h (rn isLt B E j) s) := by
    intro k
    induction k with
    | zero =>
      intro j hj
      have ea := fun d => rR_isAt (b := s) T (p := j) (lo := 97) (hi := 122) (by omega) (by omega) (by omega) d
      simp only [bi_f (show ¬ (j < E ∧ 97 ≤ B j ∧ B j ≤ 122) from fun z => by omega)] at ea
      rw [rn_no (by omega), ggR_letters_1]
      simp -implicitDefEqProofs (disch := (first | omega | assumption | exact am_isS_3 | exact am_isS_25 | exact am_isX_356 | exact am_isX_359)) only [ggR_letters_0, ggR_letters_2, ggR_letters_3, ccR_letters_0_1, ccR_letters_1_1, ea, am_kI_x, am_kV_x, am_kI_i, am_nI_i, am_kV_i, am_nV_i, ↓reduceIte, eq_self, if_true, if_false, c_in, c_tn, pn_add, pn_mul, pn_subc, pn_addm, c_le_t, c_le_f, c_lt_t, c_lt_f, c_eq_f, c_eqm, bi_z, bi_1, bi_b, bi_T, bi_F, ite_not, up_eq, up_ne, or_self, or_true, true_or, or_false, false_or, and_true, true_and, and_self, not_true_eq_false, not_false_eq_true, Bool.false_eq_true]
    | succ k ih =>
      intro j hj
      have ea := fun d => rR_isAt (b := s) T (p := j) (lo := 97) (hi := 122) (by omega) (by omega) (by omega) d
      by_cases hl : isLt (B j) = true
      · have ih := ih (j + 1) (by omega)
        have hl2 := of_decide_eq_true hl
        simp only [bi_t (show (j < E ∧ 97 ≤ B j ∧ B j ≤ 122) from ⟨by omega, hl2.1, hl2.2⟩)] at ea
        rw [rn_go (by omega) hl, ggR_letters_1]
        simp -implicitDefEqProofs (disch := (first | omega | assumption | exact am_isS_3 | exact am_isS_25 | exact am_isX_356 | exact am_isX_359)) only [ggR_letters_0, ggR_letters_2, ggR_letters_3, ccR_letters_0_1, ccR_letters_1_1, ea, rs_p, rs_10, am_kI_x, am_kV_x, am_kI_i, am_nI_i, am_kV_i, am_nV_i, ↓reduceIte, eq_self, if_true, if_false, c_in, c_tn, pn_add, pn_mul, pn_subc, pn_addm, c_le_t, c_le_f, c_lt_t, c_lt_f, c_eq_f, c_eqm, bi_z, bi_1, bi_b, bi_T, bi_F, ite_not, up_eq, up_ne, or_self, or_true, true_or, or_false, false_or, and_true, true_and, and_self, not_true_eq_false, not_false_eq_true, Bool.false_eq_true]
        exact ih
      · simp only [bi_f (show ¬ (j < E ∧ 97 ≤ B j ∧ B j ≤ 122) from fun z => hl (decide_eq_true z.2))] at ea
        rw [rn_no (fun z => hl z.2), ggR_letters_1]
        simp -implicitDefEqProofs (disch := (first | omega | assumption | exact am_isS_3 | exact am_isS_25 | exact am_isX_356 | exact am_isX_359)) only [ggR_letters_0, ggR_letters_2, ggR_letters_3, ccR_letters_0_1, ccR_letters_1_1, ea, am_kI_x, am_kV_x, am_kI_i, am_nI_i, am_kV_i, am_nV_i, ↓reduceIte, eq_self, if_true, if_false, c_in, c_tn, pn_add, pn_mul, pn_subc, pn_addm, c_le_t, c_le_f, c_lt_t, c_lt_f, c_eq_f, c_eqm, bi_z, bi_1, bi_b, bi_T, bi_F, ite_not, up_eq, up_ne, or_self, or_true, true_or, or_false, false_or, and_true, true_and, and_self, not_true_eq_false, not_false_eq_true, Bool.false_eq_true]
  have eb := fun d => rR_blanks T b d (E - p) p (by omega)
  rw [hs] at eb
  have f := l (E - s) s (by omega)
  simp -implicitDefEqProofs (disch := (first | omega | assumption | exact am_isS_3 | exact am_isS_25 | exact am_isX_356 | exact am_isX_359)) only [uR_letters, ggR_letters_0, ggR_letters_2, ggR_letters_3, ccR_letters_0_1, ccR_letters_1_1, eb, am_kI_x, am_kV_x, am_kI_i, am_nI_i, am_kV_i, am_nV_i, ↓reduceIte, eq_self, if_true, if_false, c_in, c_tn, pn_add, pn_mul, pn_subc, pn_addm, c_le_t, c_le_f, c_lt_t, c_lt_f, c_eq_f, c_eqm, bi_z, bi_1, bi_b, bi_T, bi_F, ite_not, up_eq, up_ne, or_self, or_true, true_or, or_false, false_or, and_true, true_and, and_self, not_true_eq_false, not_false_eq_true, Bool.false_eq_true]
  exact f
/-- a text of the reference is a word of the class -/
def wdOK (id w : Nat) : Prop := w < 23 ∧ am_sk (1000 + id) = true ∧ (am_sx (1000 + id)).length = (VW w).length ∧ ∀ i, i < (VW w).length → (am_sx (1000 + id)).getD i 0 = (Int32.ofNat ((VW w).getD i 0))
theorem wd_all : [(23, 17), (24, 18), (25, 3), (26, 4), (27, 5), (28, 0), (29, 22), (30, 1), (31, 2), (32, 19), (33, 20), (34, 21), (35, 7), (36, 15), (37, 16), (38, 14), (39, 13), (40, 8), (41, 9), (42, 10), (43, 6), (44, 11), (45, 12)].all (fun q => decide (q.2 < 23) && (am_sk (1000 + q.1) && (decide ((am_sx (1000 + q.1)).length = (VW q.2).length) && (List.range (VW q.2).length).all (fun i => decide ((am_sx (1000 + q.1)).getD i 0 = Int32.ofNat ((VW q.2).getD i 0)))))) = true := by decide +kernel
theorem wd_at {id w : Nat} (h : (id, w) ∈ [(23, 17), (24, 18), (25, 3), (26, 4), (27, 5), (28, 0), (29, 22), (30, 1), (31, 2), (32, 19), (33, 20), (34, 21), (35, 7), (36, 15), (37, 16), (38, 14), (39, 13), (40, 8), (41, 9), (42, 10), (43, 6), (44, 11), (45, 12)]) : wdOK id w := by
  have := List.all_eq_true.mp wd_all _ h
  rw [Bool.and_eq_true, Bool.and_eq_true, Bool.and_eq_true, decide_eq_true_eq, decide_eq_true_eq] at this
  exact ⟨this.1, this.2.1, this.2.2.1, fun i hi => of_decide_eq_true (List.all_eq_true.mp this.2.2.2 i (List.mem_range.mpr hi))⟩
theorem rR_isWordT {h : am_H} {B : Nat → Nat} {E p s id w : Nat} (T : rtp h B E) (hw : wdOK id w) (hs : s ≤ p) (hp : p ≤ E) (hl : ∀ j, s ≤ j → j < p → isLt (B j) = true) (d : Nat) : am_cl (d + 1) qR_isWord [.ref 373, .ref ((1000 + id))] (rs h p s) = some (.inl (some (bi (tokIs B w s (p - s) = true))), rs h p s) := by
  obtain ⟨hE, e1, eb⟩ := T
  obtain ⟨w1, w2, w3, w4⟩ := hw
  obtain ⟨v1, v2, v3⟩ := vw_at w1
  by_cases hlen : p - s = (VW w).length
  · have l : ∀ k j, j + k = (VW w).length → ∀ b0 : Bool, am_go (am_cl d) qR_isWord 4 [.ref 373, .ref (1000 + id), .int (bi ((b0 && allN (fun i => decide (B (s + i) = (VW w).getD i 0)) j) = true)), .int (Int32.ofNat j)] [] (rs h p s) = some (.inl (some (bi ((b0 && allN (fun i => decide (B (s + i) = (VW w).getD i 0)) (VW w).length) = true))), rs h p s) := by
      intro k
      induction k with
      | zero =>
        intro j hj b0
        have hj : j = (VW w).length := by omega
        subst hj
        rw [ggR_isWord_4]
        by_cases h1 : (b0 && allN (fun i => decide (B (s + i) = (VW w).getD i 0)) (VW w).length) = true
        · rw [bi_t h1]
          simp -implicitDefEqProofs (disch := (first | omega | assumption | exact am_isS_3 | exact am_isS_25 | exact am_isX_356 | exact am_isX_359)) only [ggR_isWord_0, ggR_isWord_1, ggR_isWord_2, ggR_isWord_3, ggR_isWord_5, ggR_isWord_6, ggR_isWord_7, ggR_isWord_8, ggR_isWord_9, ggR_isWord_10, w2, w3, am_kI_x, am_kV_x, am_kI_i, am_nI_i, am_kV_i, am_nV_i, ↓reduceIte, eq_self, if_true, if_false, c_in, c_tn, pn_add, pn_mul, pn_subc, pn_addm, c_le_t, c_le_f, c_lt_t, c_lt_f, c_eq_f, c_eqm, bi_z, bi_1, bi_b, bi_T, bi_F, ite_not, up_eq, up_ne, or_self, or_true, true_or, or_false, false_or, and_true, true_and, and_self, not_true_eq_false, not_false_eq_true, Bool.false_eq_true]
        · rw [bi_f h1]
          simp -implicitDefEqProofs (disch := (first | omega | assumption | exact am_isS_3 | exact am_isS_25 | exact am_isX_356 | exact am_isX_359)) only [ggR_isWord_0, ggR_isWord_1, ggR_isWord_2, ggR_isWord_3, ggR_isWord_5, ggR_isWord_6, ggR_isWord_7, ggR_isWord_8, ggR_isWord_9, ggR_isWord_10, w2, w3, am_kI_x, am_kV_x, am_kI_i, am_nI_i, am_kV_i, am_nV_i, ↓reduceIte, eq_self, if_true, if_false, c_in, c_tn, pn_add, pn_mul, pn_subc, pn_addm, c_le_t, c_le_f, c_lt_t, c_lt_f, c_eq_f, c_eqm, bi_z, bi_1, bi_b, bi_T, bi_F, ite_not, up_eq, up_ne, or_self, or_true, true_or, or_false, false_or, and_true, true_and, and_self, not_true_eq_false, not_false_eq_true, Bool.false_eq_true]
      | succ k ih =>
        intro j hj b0
        have w4j := w4 j (by omega)
        obtain ⟨b1, b2⟩ := eb (s + j) (by omega)
        have lj := of_decide_eq_true (hl (s + j) (by omega) (by omega))
        have sj : ((Int32.ofNat (B (s + j))) : Int32).toInt8.toInt32 = (Int32.ofNat (B (s + j))) := by
          rcases sbt_at b1 with q | q
          · exact q.2
          · omega
        rw [sj] at b2
        have vj := of_decide_eq_true ((v3 j (by omega)).2 (by omega))
        have ih := ih (j + 1) (by omega) b0
        rw [allN_S] at ih
        have eB : (rs h p s).2 379 (s + j) = (Int32.ofNat (B (s + j))) := by rw [rs_o (by omega)]; exact b2
        by_cases h1 : (b0 && allN (fun i => decide (B (s + i) = (VW w).getD i 0)) j) = true
        · rw [bi_t h1]
          by_cases h2 : B (s + j) = (VW w).getD j 0
          · rw [bi_t (by rw [← Bool.and_assoc, h1, decide_eq_true h2]; rfl)] at ih
            rw [← ih, ggR_isWord_4]
            simp -implicitDefEqProofs (disch := (first | omega | assumption | exact am_isS_3 | exact am_isS_25 | exact am_isX_356 | exact am_isX_359)) only [ggR_isWord_0, ggR_isWord_1, ggR_isWord_2, ggR_isWord_3, ggR_isWord_5, ggR_isWord_6, ggR_isWord_7, ggR_isWord_8, ggR_isWord_9, ggR_isWord_10, w2, w3, rs_b, eB, w4j, h2, am_kI_x, am_kV_x, am_kI_i, am_nI_i, am_kV_i, am_nV_i, ↓reduceIte, eq_self, if_true, if_false, c_in, c_tn, pn_add, pn_mul, pn_subc, pn_addm, c_le_t, c_le_f, c_lt_t, c_lt_f, c_eq_f, c_eqm, bi_z, bi_1, bi_b, bi_T, bi_F, ite_not, up_eq, up_ne, or_self, or_true, true_or, or_false, false_or, and_true, true_and, and_self, not_true_eq_false, not_false_eq_true, Bool.false_eq_true]
          · rw [bi_f (by rw [decide_eq_false h2, Bool.and_false, Bool.and_false]; decide)] at ih
            have hne : ((Int32.ofNat (B (s + j))) = (Int32.ofNat ((VW w).getD j 0))) = False := c_eq_f h2 (by omega) (by omega)
            rw [← ih, ggR_isWord_4]
            simp -implicitDefEqProofs (disch := (first | omega | assumption | exact am_isS_3 | exact am_isS_25 | exact am_isX_356 | exact am_isX_359)) only [ggR_isWord_0, ggR_isWord_1, ggR_isWord_2, ggR_isWord_3, ggR_isWord_5, ggR_isWord_6, ggR_isWord_7, ggR_isWord_8, ggR_isWord_9, ggR_isWord_10, w2, w3, rs_b, eB, w4j, hne, am_kI_x, am_kV_x, am_kI_i, am_nI_i, am_kV_i, am_nV_i, ↓reduceIte, eq_self, if_true, if_false, c_in, c_tn, pn_add, pn_mul, pn_subc, pn_addm, c_le_t, c_le_f, c_lt_t, c_lt_f, c_eq_f, c_eqm, bi_z, bi_1, bi_b, bi_T, bi_F, ite_not, up_eq, up_ne, or_self, or_true, true_or, or_false, false_or, and_true, true_and, and_self, not_true_eq_false, not_false_eq_true, Bool.false_eq_true]
        · rw [bi_f h1]
          have hff : ¬ (b0 && allN (fun i => decide (B (s + i) = (VW w).getD i 0)) (VW w).length) = true := fun q => by
            rw [Bool.and_eq_true] at q h1
            exact h1 ⟨q.1, allN_iff.mpr (fun i hi => allN_iff.mp q.2 i (by omega))⟩
          rw [bi_f hff, ggR_isWord_4]
          simp -implicitDefEqProofs (disch := (first | omega | assumption | exact am_isS_3 | exact am_isS_25 | exact am_isX_356 | exact am_isX_359)) only [ggR_isWord_0, ggR_isWord_1, ggR_isWord_2, ggR_isWord_3, ggR_isWord_5, ggR_isWord_6, ggR_isWord_7, ggR_isWord_8, ggR_isWord_9, ggR_isWord_10, am_kI_x, am_kV_x, am_kI_i, am_nI_i, am_kV_i, am_nV_i, ↓reduceIte, eq_self, if_true, if_false, c_in, c_tn, pn_add, pn_mul, pn_subc, pn_addm, c_le_t, c_le_f, c_lt_t, c_lt_f, c_eq_f, c_eqm, bi_z, bi_1, bi_b, bi_T, bi_F, ite_not, up_eq, up_ne, or_self, or_true, true_or, or_false, false_or, and_true, true_and, and_self, not_true_eq_false, not_false_eq_true, Bool.false_eq_true]
    have f := l (VW w).length 0 (by omega) true
    have ek : tokIs B w s (p - s) = (true && allN (fun i => decide (B (s + i) = (VW w).getD i 0)) (VW w).length) := by
      unfold tokIs
      rw [hlen, decide_eq_true rfl]
    rw [ek, ← f]
    have e0 : (bi ((true && allN (fun i => decide (B (s + i) = (VW w).getD i 0)) 0) = true)) = (Int32.ofNat 1) := bi_t rfl
    rw [e0]
    simp -implicitDefEqProofs (disch := (first | omega | assumption | exact am_isS_3 | exact am_isS_25 | exact am_isX_356 | exact am_isX_359)) only [uR_isWord, ggR_isWord_0, ggR_isWord_1, ggR_isWord_2, ggR_isWord_3, ggR_isWord_5, ggR_isWord_6, ggR_isWord_7, ggR_isWord_8, ggR_isWord_9, ggR_isWord_10, w2, w3, rs_p, rs_b, hlen, am_kI_x, am_kV_x, am_kI_i, am_nI_i, am_kV_i, am_nV_i, ↓reduceIte, eq_self, if_true, if_false, c_in, c_tn, pn_add, pn_mul, pn_subc, pn_addm, c_le_t, c_le_f, c_lt_t, c_lt_f, c_eq_f, c_eqm, bi_z, bi_1, bi_b, bi_T, bi_F, ite_not, up_eq, up_ne, or_self, or_true, true_or, or_false, false_or, and_true, true_and, and_self, not_true_eq_false, not_false_eq_true, Bool.false_eq_true]
  · have ek : tokIs B w s (p - s) = false := by
      unfold tokIs
      rw [decide_eq_false hlen, Bool.false_and]
    rw [ek, bi_f (by decide)]
    simp -implicitDefEqProofs (disch := (first | omega | assumption | exact am_isS_3 | exact am_isS_25 | exact am_isX_356 | exact am_isX_359)) only [uR_isWord, ggR_isWord_4, ggR_isWord_0, ggR_isWord_1, ggR_isWord_2, ggR_isWord_3, ggR_isWord_5, ggR_isWord_6, ggR_isWord_7, ggR_isWord_8, ggR_isWord_9, ggR_isWord_10, w2, w3, rs_p, rs_b, am_kI_x, am_kV_x, am_kI_i, am_nI_i, am_kV_i, am_nV_i, ↓reduceIte, eq_self, if_true, if_false, c_in, c_tn, pn_add, pn_mul, pn_subc, pn_addm, c_le_t, c_le_f, c_lt_t, c_lt_f, c_eq_f, c_eqm, bi_z, bi_1, bi_b, bi_T, bi_F, ite_not, up_eq, up_ne, or_self, or_true, true_or, or_false, false_or, and_true, true_and, and_self, not_true_eq_false, not_false_eq_true, Bool.false_eq_true]
def lte (B : Nat → Nat) (E a : Nat) : Nat := rn isLt B E (stt B E a)
theorem lte_le {B : Nat → Nat} {E a : Nat} : stt B E a ≤ lte B E a ∧ lte B E a ≤ E := by
  obtain ⟨x, y, -⟩ := rn_at (q := isLt) (B := B) (stt_le (B := B) (E := E) a)
  exact ⟨x, y⟩
theorem hB_of {h : am_H} {B : Nat → Nat} {E : Nat} (T : rtp h B E) : ∀ i, i < E → B i < 256 := fun i hi => (T.2.2 i (by have := T.1; omega)).1
/-- behind the letters of a token: is it this word -/
theorem rR_isWord {h : am_H} {B : Nat → Nat} {E a id w : Nat} (T : rtp h B E) (hw : wdOK id w) (d : Nat) : am_cl (d + 1) qR_isWord [.ref 373, .ref ((1000 + id))] (rs h (lte B E a) (stt B E a)) = some (.inl (some (bi (cdx B E a = (Int32.ofNat (1000 + w))))), rs h (lte B E a) (stt B E a)) := by
  have hE := T.1
  obtain ⟨l1, l2⟩ := lte_le (B := B) (E := E) (a := a)
  rw [rR_isWordT T hw l1 l2 (fun j j1 j2 => (rn_at (q := isLt) (B := B) (stt_le (B := B) (E := E) a)).2.2.1 j j1 j2) d]
  have hf := hw.1
  have : (tokIs B w (stt B E a) (lte B E a - stt B E a) = true) = (cdx B E a = (Int32.ofNat (1000 + w))) := by
    have hB := hB_of T
    by_cases hs : stt B E a < E
    · by_cases hl : isLt (B (stt B E a)) = true
      · have e : te B E (stt B E a) = lte B E a := by unfold te lte; rw [if_pos hl]
        have := cd_word hs hf (hB _ hs) hl
        unfold cdx
        rw [if_pos hs, this, e]
      · have e0 : lte B E a = stt B E a := rn_no (fun z => hl z.2)
        apply propext
        constructor
        · intro z
          have := tok_len hf z
          omega
        · intro z
          rcases cdx_cases (a := a) hB with ⟨q, -⟩ | ⟨-, ⟨q1, q2, q3⟩ | ⟨q1, -⟩ | ⟨q1, q2, q3, q4⟩⟩
          · omega
          · rcases q3 with ⟨-, v, v1, -, v3⟩ | ⟨-, v3⟩
            · rw [v3] at z
              have := (pn_eq (by omega) (by omega)).mp z
              omega
            · rw [v3] at z; exact absurd z (ne_m1 (by omega))
          · exact absurd q1 hl
          · rw [q4] at z
            have := (pn_eq (by have := hB _ hs; omega) (by omega)).mp z
            omega
    · have e0 : lte B E a = stt B E a := rn_no (fun z => hs z.1)
      apply propext
      constructor
      · intro z
        have := tok_len hf z
        omega
      · intro z
        unfold cdx at z
        rw [if_neg hs] at z
        exact absurd z (m2_ne (by omega))
  rw [bi_congr (Iff.of_eq this)]
