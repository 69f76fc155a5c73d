/-! a law's conditions, read by both -/
theorem sum_both {B : Nat → Nat} {E n e dp a l : Nat} {ts : List Bool} {hC hR : am_H} {p : Nat} (hts : ts.length ≤ 20) (h0 : l + 2 ≤ a) (S : CB B E n e a l dp ts hC hR) (K : Tk B E a p) (b c r : Nat) : CO B E n e a l dp ts false hC hR (am_cl (c + 2) qY_readSum [.ref 359] hC) (am_cl (r + 5) qR_readSum [.ref 373] (rs hR p b)) := by
  have := sum_l (hC0 := hC) (hR0 := hR) hts h0 c r (n + 1) 0 a l 0 ts hC hR p b .null (by omega) (by omega) S K CF.rfl' (Or.inl ⟨rfl, rfl, Nat.le_refl _, Nat.le_refl _, Nat.le_refl _, rfl⟩)
  rw [uY_readSum, ggY_readSum_0, uR_readSum]
  exact this
theorem rR_readTag {h : am_H} {B : Nat → Nat} {E a p l : Nat} (T : rtp h B E) (K : Tk B E a p) (e16 : h.2 373 16 = (Int32.ofNat l)) (hl : l < 400) (b : Nat) : (∃ k, 8 ≤ k ∧ k ≤ 10 ∧ cdx B E a = (Int32.ofNat (1000 + k)) ∧ ∀ d, am_cl (d + 4) qR_readTag [.ref 373] (rs h p b) = some (.inl (some ((Int32.ofNat 1))), rs (emt h l (Int32.ofNat k) (Int32.ofNat 0)) (lte B E a) (stt B E a))) ∨ ((∀ k, 8 ≤ k → k ≤ 10 → ¬ cdx B E a = (Int32.ofNat (1000 + k))) ∧ ∀ d, am_cl (d + 4) qR_readTag [.ref 373] (rs h p b) = some (.inl (some ((Int32.ofNat 0))), rs h (stt B E a) (stt B E a))) := by
  have el := fun d => rR_lettersA T K b d
  have em := fun p b k v d => rR_emits (p := p) (b := b) e16 hl k v d
  have w8 := fun d => rR_isWord (a := a) T (wd_at (id := 40) (w := 8) (by simp)) d
  have w9 := fun d => rR_isWord (a := a) T (wd_at (id := 41) (w := 9) (by simp)) d
  have w10 := fun d => rR_isWord (a := a) T (wd_at (id := 42) (w := 10) (by simp)) d
  by_cases q8 : cdx B E a = (Int32.ofNat (1000 + 8))
  · simp only [bi_t q8] at w8
    refine Or.inl ⟨8, by omega, by omega, q8, ?_⟩
    intro d
    simp -implicitDefEqProofs (disch := (first | omega | assumption | exact am_isS_3 | exact am_isS_25 | exact am_isX_356 | exact am_isX_359)) only [uR_readTag, ggR_readTag_0, ggR_readTag_1, ggR_readTag_2, ggR_readTag_3, ggR_readTag_4, ggR_readTag_5, ggR_readTag_6, ggR_readTag_7, ggR_readTag_8, ggR_readTag_9, ggR_readTag_10, ggR_readTag_11, ggR_readTag_12, ggR_readTag_13, ccR_readTag_0_2, ccR_readTag_0_1, ccR_readTag_2_1, ccR_readTag_4_1, ccR_readTag_8_1, el, w8, em, am_kI_x, am_kV_x, am_kI_i, am_nI_i, am_kV_i, am_nV_i, ↓reduceIte, eq_self, if_true, if_false, c_in, c_tn, pn_add, pn_mul, pn_subc, pn_addm, c_le_t, c_le_f, c_lt_t, c_lt_f, c_eq_f, c_eqm, bi_z, bi_1, bi_b, bi_T, bi_F, ite_not, up_eq, up_ne, or_self, or_true, true_or, or_false, false_or, and_true, true_and, and_self, not_true_eq_false, not_false_eq_true, Bool.false_eq_true]
  simp only [bi_f q8] at w8
  by_cases q9 : cdx B E a = (Int32.ofNat (1000 + 9))
  · simp only [bi_t q9] at w9
    refine Or.inl ⟨9, by omega, by omega, q9, ?_⟩
    intro d
    simp -implicitDefEqProofs (disch := (first | omega | assumption | exact am_isS_3 | exact am_isS_25 | exact am_isX_356 | exact am_isX_359)) only [uR_readTag, ggR_readTag_0, ggR_readTag_1, ggR_readTag_2, ggR_readTag_3, ggR_readTag_4, ggR_readTag_5, ggR_readTag_6, ggR_readTag_7, ggR_readTag_8, ggR_readTag_9, ggR_readTag_10, ggR_readTag_11, ggR_readTag_12, ggR_readTag_13, ccR_readTag_0_2, ccR_readTag_0_1, ccR_readTag_2_1, ccR_readTag_4_1, ccR_readTag_8_1, el, w8, w9, em, am_kI_x, am_kV_x, am_kI_i, am_nI_i, am_kV_i, am_nV_i, ↓reduceIte, eq_self, if_true, if_false, c_in, c_tn, pn_add, pn_mul, pn_subc, pn_addm, c_le_t, c_le_f, c_lt_t, c_lt_f, c_eq_f, c_eqm, bi_z, bi_1, bi_b, bi_T, bi_F, ite_not, up_eq, up_ne, or_self, or_true, true_or, or_false, false_or, and_true, true_and, and_self, not_true_eq_false, not_false_eq_true, Bool.false_eq_true]
  simp only [bi_f q9] at w9
  by_cases q10 : cdx B E a = (Int32.ofNat (1000 + 10))
  · simp only [bi_t q10] at w10
    refine Or.inl ⟨10, by omega, by omega, q10, ?_⟩
    intro d
    simp -implicitDefEqProofs (disch := (first | omega | assumption | exact am_isS_3 | exact am_isS_25 | exact am_isX_356 | exact am_isX_359)) only [uR_readTag, ggR_readTag_0, ggR_readTag_1, ggR_readTag_2, ggR_readTag_3, ggR_readTag_4, ggR_readTag_5, ggR_readTag_6, ggR_readTag_7, ggR_readTag_8, ggR_readTag_9, ggR_readTag_10, ggR_readTag_11, ggR_readTag_12, ggR_readTag_13, ccR_readTag_0_2, ccR_readTag_0_1, ccR_readTag_2_1, ccR_readTag_4_1, ccR_readTag_8_1, el, w8, w9, w10, em, am_kI_x, am_kV_x, am_kI_i, am_nI_i, am_kV_i, am_nV_i, ↓reduceIte, eq_self, if_true, if_false, c_in, c_tn, pn_add, pn_mul, pn_subc, pn_addm, c_le_t, c_le_f, c_lt_t, c_lt_f, c_eq_f, c_eqm, bi_z, bi_1, bi_b, bi_T, bi_F, ite_not, up_eq, up_ne, or_self, or_true, true_or, or_false, false_or, and_true, true_and, and_self, not_true_eq_false, not_false_eq_true, Bool.false_eq_true]
  simp only [bi_f q10] at w10
  refine Or.inr ⟨fun k h1 h2 => ?_, ?_⟩
  · rcases (show k = 8 ∨ k = 9 ∨ k = 10 by omega) with rfl | rfl | rfl
    all_goals assumption
  · intro d
    simp -implicitDefEqProofs (disch := (first | omega | assumption | exact am_isS_3 | exact am_isS_25 | exact am_isX_356 | exact am_isX_359)) only [uR_readTag, ggR_readTag_0, ggR_readTag_1, ggR_readTag_2, ggR_readTag_3, ggR_readTag_4, ggR_readTag_5, ggR_readTag_6, ggR_readTag_7, ggR_readTag_8, ggR_readTag_9, ggR_readTag_10, ggR_readTag_11, ggR_readTag_12, ggR_readTag_13, ccR_readTag_0_2, ccR_readTag_0_1, ccR_readTag_2_1, ccR_readTag_4_1, ccR_readTag_8_1, el, w8, w9, w10, rs_b, rs_10, m1_neg, am_kI_x, am_kV_x, am_kI_i, am_nI_i, am_kV_i, am_nV_i, ↓reduceIte, eq_self, if_true, if_false, c_in, c_tn, pn_add, pn_mul, pn_subc, pn_addm, c_le_t, c_le_f, c_lt_t, c_lt_f, c_eq_f, c_eqm, bi_z, bi_1, bi_b, bi_T, bi_F, ite_not, up_eq, up_ne, or_self, or_true, true_or, or_false, false_or, and_true, true_and, and_self, not_true_eq_false, not_false_eq_true, Bool.false_eq_true]
theorem tyk_tt {k : Nat} {ts : List Bool} (hk : k = 16 ∨ k = 17) (h : ts.length < 22) : tyk k (true :: true :: ts) = some (true :: ts) := by
  unfold tyk
  rw [if_neg (by simp; omega), if_neg (by omega), if_neg (by omega), if_neg (by omega), if_neg (by omega), if_neg (by omega), if_pos hk]
theorem tyk_cmp {k : Nat} {ts : List Bool} (hk : k = 13 ∨ k = 14) (h : ts.length < 22) : tyk k (false :: false :: ts) = some (true :: ts) := by
  unfold tyk
  rw [if_neg (by simp; omega), if_neg (by omega), if_neg (by omega), if_neg (by omega), if_neg (by omega), if_pos hk]
theorem tyk_15 {ts : List Bool} (h : ts.length < 23) : tyk 15 (true :: ts) = some (true :: ts) := by
  unfold tyk
  rw [if_neg (by simp; omega), if_neg (by omega), if_neg (by omega), if_pos rfl]
theorem tyk_tag {k : Nat} {ts : List Bool} (hk : 8 ≤ k ∧ k ≤ 10) (h : ts.length < 24) : tyk k ts = some (true :: ts) := by
  unfold tyk
  rw [if_neg (by omega), if_neg (by omega), if_pos (by omega)]
theorem all_l {B : Nat → Nat} {E n e D a0 l0 m C P : Nat} {ts : List Bool} {hC0 hR0 : am_H} (hm : m ≤ 20) (hts : ts.length ≤ m) (h0 : l0 + 2 ≤ a0) (hC4 : 4 ≤ C) (hP4 : 6 ≤ P) (hin : ∀ a l tsi hC hR p b, CB B E n e a l D tsi hC hR → Tk B E a p → l + 2 ≤ a → tsi.length ≤ m + 1 → CO B E n e a l D tsi true hC hR (am_cl C qY_readAtom [.ref 359, .int (Int32.ofNat D)] hC) (am_cl P qR_readAtom [.ref 373] (rs hR p b))) : ∀ (k i a l q : Nat) (tsi : List Bool) (hC hR : am_H) (p b : Nat), n < a + k → i + 2 ≤ a → CB B E n e a l D tsi hC hR → Tk B E a p → CF l0 hC0 hC hR0 hR → (i = 0 ∧ tsi = ts ∧ l0 ≤ l ∧ a0 ≤ a ∧ l + a0 ≤ l0 + a ∧ q = 0 ∨ 0 < i ∧ tsi = true :: ts ∧ l0 < l ∧ a0 < a ∧ l + 1 + a0 ≤ l0 + a ∧ q = 3) → CO B E n e a0 l0 D ts true hC0 hR0 (am_go (am_cl C) qY_readAll 1 [.ref 359, .int (Int32.ofNat D), .int (Int32.ofNat i)] [] hC) (am_go (am_cl P) qR_readAllOf q [.ref 373] [] (rs hR p b)) := by
  obtain ⟨c, rfl⟩ : ∃ c, C = c + 4 := ⟨C - 4, by omega⟩
  obtain ⟨r, rfl⟩ : ∃ r, P = r + 6 := ⟨P - 6, by omega⟩
  intro k
  induction k with
  | zero =>
    intro i a l q tsi hC hR p b hk h2 S K F cs
    have := S.2.2.1
    omega
  | succ k ih =>
    intro i a l q tsi hC hR p b hk h2 S K F cs
    have n4 := S.1.1
    have an := S.2.2.1
    have hl0 : l0 ≤ l ∧ a0 ≤ a ∧ l + a0 ≤ l0 + a := by
      rcases cs with ⟨-, -, q1, q2, q3, -⟩ | ⟨-, -, q1, q2, q3, -⟩
      · exact ⟨q1, q2, q3⟩
      · exact ⟨by omega, by omega, by omega⟩
    have hl : l + 2 ≤ a := by omega
    have tl : tsi.length ≤ m + 1 := by
      rcases cs with ⟨-, rfl, -⟩ | ⟨-, rfl, -⟩
      · omega
      · simp; omega
    have f4 : ¬ ((Int32.ofNat 400) : Int32) ≤ (Int32.ofNat i) := by rw [pn_le (by omega) (by omega)]; omega
    rcases hin a l tsi hC hR p b S K hl tl with ⟨hC1, hR1, p1, a1, u1, u2, u3, u4, u5⟩ | ⟨hC1, hR1, p1, b1, a1, l1, u1, u2, K1, v1, v2, v3, S1, F1⟩
    · refine Or.inl ⟨hC1, hR1, p1, a1, ?_, ?_, u3, u4, F.tr u5 hl0.1⟩
      · simp -implicitDefEqProofs (disch := (first | omega | assumption | exact am_isS_3 | exact am_isS_25 | exact am_isX_356 | exact am_isX_359)) only [ggY_readAll_1, ggY_readAll_0, ggY_readAll_2, ggY_readAll_3, ggY_readAll_4, ggY_readAll_5, ggY_readAll_6, ggY_readAll_7, ggY_readAll_8, ggY_readAll_9, ccY_readAll_2_1, ccY_readAll_4_1, ccY_readAll_6_1, f4, u1, am_kI_x, am_kV_x, am_kI_i, am_nI_i, am_kV_i, am_nV_i, ↓reduceIte, eq_self, if_true, if_false, c_in, c_tn, pn_add, pn_mul, pn_subc, pn_addm, c_le_t, c_le_f, c_lt_t, c_lt_f, c_eq_f, c_eqm, bi_z, bi_1, bi_b, bi_T, bi_F, ite_not, up_eq, up_ne, or_self, or_true, true_or, or_false, false_or, and_true, true_and, and_self, not_true_eq_false, not_false_eq_true, Bool.false_eq_true]
      · rcases cs with ⟨-, -, -, -, -, rfl⟩ | ⟨-, -, -, -, -, rfl⟩
        · simp -implicitDefEqProofs (disch := (first | omega | assumption | exact am_isS_3 | exact am_isS_25 | exact am_isX_356 | exact am_isX_359)) only [ggR_readAllOf_0, ggR_readAllOf_1, ggR_readAllOf_3, ggR_readAllOf_4, ggR_readAllOf_5, ggR_readAllOf_6, ccR_readAllOf_0_1, ccR_readAllOf_2_1, ccR_readAllOf_3_1, ccR_readAllOf_5_1, u2, am_kI_x, am_kV_x, am_kI_i, am_nI_i, am_kV_i, am_nV_i, ↓reduceIte, eq_self, if_true, if_false, c_in, c_tn, pn_add, pn_mul, pn_subc, pn_addm, c_le_t, c_le_f, c_lt_t, c_lt_f, c_eq_f, c_eqm, bi_z, bi_1, bi_b, bi_T, bi_F, ite_not, up_eq, up_ne, or_self, or_true, true_or, or_false, false_or, and_true, true_and, and_self, not_true_eq_false, not_false_eq_true, Bool.false_eq_true]
        · simp -implicitDefEqProofs (disch := (first | omega | assumption | exact am_isS_3 | exact am_isS_25 | exact am_isX_356 | exact am_isX_359)) only [ggR_readAllOf_0, ggR_readAllOf_1, ggR_readAllOf_3, ggR_readAllOf_4, ggR_readAllOf_5, ggR_readAllOf_6, ccR_readAllOf_0_1, ccR_readAllOf_2_1, ccR_readAllOf_3_1, ccR_readAllOf_5_1, u2, am_kI_x, am_kV_x, am_kI_i, am_nI_i, am_kV_i, am_nV_i, ↓reduceIte, eq_self, if_true, if_false, c_in, c_tn, pn_add, pn_mul, pn_subc, pn_addm, c_le_t, c_le_f, c_lt_t, c_lt_f, c_eq_f, c_eqm, bi_z, bi_1, bi_b, bi_T, bi_F, ite_not, up_eq, up_ne, or_self, or_true, true_or, or_false, false_or, and_true, true_and, and_self, not_true_eq_false, not_false_eq_true, Bool.false_eq_true]
    · have a1n := S1.2.2.1
      obtain ⟨l2, hC2, hR2, g2, g3, S2, F2, gC0, gC1, gR⟩ : ∃ l2 hC2 hR2, l2 + a0 ≤ l0 + a1 ∧ l0 < l2 ∧ CB B E n e a1 l2 D (true :: ts) hC2 hR2 ∧ CF l hC hC2 hR hR2 ∧ (∀ h', (∀ d, am_cl (d + 1) qX_take [.ref 359, .int (Int32.ofNat ((1000 + 11)))] hC2 = some (.inl (some ((Int32.ofNat 0))), h')) → am_go (am_cl (c + 4)) qY_readAll 1 [.ref 359, .int (Int32.ofNat D), .int (Int32.ofNat i)] [] hC = some (.inl (some ((Int32.ofNat 1))), h')) ∧ (∀ h', (∀ d, am_cl (d + 1) qX_take [.ref 359, .int (Int32.ofNat ((1000 + 11)))] hC2 = some (.inl (some ((Int32.ofNat 1))), h')) → am_go (am_cl (c + 4)) qY_readAll 1 [.ref 359, .int (Int32.ofNat D), .int (Int32.ofNat i)] [] hC = am_go (am_cl (c + 4)) qY_readAll 1 [.ref 359, .int (Int32.ofNat D), .int (Int32.ofNat (i + 1))] [] h') ∧ am_go (am_cl (r + 6)) qR_readAllOf q [.ref 373] [] (rs hR p b) = am_go (am_cl (r + 6)) qR_readAllOf 2 [.ref 373] [] (rs hR2 p1 b1) := by
        rcases cs with ⟨rfl, rfl, q1, q2, q3, rfl⟩ | ⟨q0, rfl, q1, q2, q3, rfl⟩
        · refine ⟨l1, hC1, hR1, by omega, by omega, S1, F1, fun h' et => ?_, fun h' et => ?_, ?_⟩
          · simp -implicitDefEqProofs (disch := (first | omega | assumption | exact am_isS_3 | exact am_isS_25 | exact am_isX_356 | exact am_isX_359)) only [ggY_readAll_1, ggY_readAll_0, ggY_readAll_2, ggY_readAll_3, ggY_readAll_4, ggY_readAll_5, ggY_readAll_6, ggY_readAll_7, ggY_readAll_8, ggY_readAll_9, ccY_readAll_2_1, ccY_readAll_4_1, ccY_readAll_6_1, u1, et, am_kI_x, am_kV_x, am_kI_i, am_nI_i, am_kV_i, am_nV_i, ↓reduceIte, eq_self, if_true, if_false, c_in, c_tn, pn_add, pn_mul, pn_subc, pn_addm, c_le_t, c_le_f, c_lt_t, c_lt_f, c_eq_f, c_eqm, bi_z, bi_1, bi_b, bi_T, bi_F, ite_not, up_eq, up_ne, or_self, or_true, true_or, or_false, false_or, and_true, true_and, and_self, not_true_eq_false, not_false_eq_true, Bool.false_eq_true]
          · rw [ggY_readAll_1]
            simp -implicitDefEqProofs (disch := (first | omega | assumption | exact am_isS_3 | exact am_isS_25 | exact am_isX_356 | exact am_isX_359)) only [ggY_readAll_0, ggY_readAll_2, ggY_readAll_3, ggY_readAll_4, ggY_readAll_5, ggY_readAll_6, ggY_readAll_7, ggY_readAll_8, ggY_readAll_9, ccY_readAll_2_1, ccY_readAll_4_1, ccY_readAll_6_1, u1, et, am_kI_x, am_kV_x, am_kI_i, am_nI_i, am_kV_i, am_nV_i, ↓reduceIte, eq_self, if_true, if_false, c_in, c_tn, pn_add, pn_mul, pn_subc, pn_addm, c_le_t, c_le_f, c_lt_t, c_lt_f, c_eq_f, c_eqm, bi_z, bi_1, bi_b, bi_T, bi_F, ite_not, up_eq, up_ne, or_self, or_true, true_or, or_false, false_or, and_true, true_and, and_self, not_true_eq_false, not_false_eq_true, Bool.false_eq_true]
          · simp -implicitDefEqProofs (disch := (first | omega | assumption | exact am_isS_3 | exact am_isS_25 | exact am_isX_356 | exact am_isX_359)) only [ggR_readAllOf_0, ggR_readAllOf_1, ggR_readAllOf_3, ggR_readAllOf_4, ggR_readAllOf_5, ggR_readAllOf_6, ccR_readAllOf_0_1, ccR_readAllOf_2_1, ccR_readAllOf_3_1, ccR_readAllOf_5_1, u2, am_kI_x, am_kV_x, am_kI_i, am_nI_i, am_kV_i, am_nV_i, ↓reduceIte, eq_self, if_true, if_false, c_in, c_tn, pn_add, pn_mul, pn_subc, pn_addm, c_le_t, c_le_f, c_lt_t, c_lt_f, c_eq_f, c_eqm, bi_z, bi_1, bi_b, bi_T, bi_F, ite_not, up_eq, up_ne, or_self, or_true, true_or, or_false, false_or, and_true, true_and, and_self, not_true_eq_false, not_false_eq_true, Bool.false_eq_true]
        · have S1' := S1.put (k := 16) (x := (Int32.ofNat (1000 + 11))) (v := (Int32.ofNat 0)) (by omega) (tyk_tt (by omega) (by omega)) (by unfold cR; simp)
          have pp := fun d => xL_put S1.2.2.2.2.1 (by omega) (Int32.ofNat (1000 + 11)) d
          have em := fun d => rR_emits (p := p1) (b := b1) S1.2.2.2.2.2.1 (by omega) (Int32.ofNat 16) (Int32.ofNat 0) d
          have i0 : ¬ ((Int32.ofNat i) : Int32) ≤ (Int32.ofNat 0) := by rw [pn_le (by omega) (by omega)]; omega
          refine ⟨l1 + 1, ptc hC1 l1 (Int32.ofNat (1000 + 11)), emt hR1 l1 (Int32.ofNat 16) (Int32.ofNat 0), by omega, by omega, S1', F1.tr ((CF.pt (Nat.le_refl l1)).tr (CF.em (Nat.le_refl l1)) (Nat.le_refl l1)) (by omega), fun h' et => ?_, fun h' et => ?_, ?_⟩
          · simp -implicitDefEqProofs (disch := (first | omega | assumption | exact am_isS_3 | exact am_isS_25 | exact am_isX_356 | exact am_isX_359)) only [ggY_readAll_1, ggY_readAll_0, ggY_readAll_2, ggY_readAll_3, ggY_readAll_4, ggY_readAll_5, ggY_readAll_6, ggY_readAll_7, ggY_readAll_8, ggY_readAll_9, ccY_readAll_2_1, ccY_readAll_4_1, ccY_readAll_6_1, f4, u1, i0, pp, et, am_kI_x, am_kV_x, am_kI_i, am_nI_i, am_kV_i, am_nV_i, ↓reduceIte, eq_self, if_true, if_false, c_in, c_tn, pn_add, pn_mul, pn_subc, pn_addm, c_le_t, c_le_f, c_lt_t, c_lt_f, c_eq_f, c_eqm, bi_z, bi_1, bi_b, bi_T, bi_F, ite_not, up_eq, up_ne, or_self, or_true, true_or, or_false, false_or, and_true, true_and, and_self, not_true_eq_false, not_false_eq_true, Bool.false_eq_true]
          · rw [ggY_readAll_1]
            simp -implicitDefEqProofs (disch := (first | omega | assumption | exact am_isS_3 | exact am_isS_25 | exact am_isX_356 | exact am_isX_359)) only [ggY_readAll_0, ggY_readAll_2, ggY_readAll_3, ggY_readAll_4, ggY_readAll_5, ggY_readAll_6, ggY_readAll_7, ggY_readAll_8, ggY_readAll_9, ccY_readAll_2_1, ccY_readAll_4_1, ccY_readAll_6_1, f4, u1, i0, pp, et, am_kI_x, am_kV_x, am_kI_i, am_nI_i, am_kV_i, am_nV_i, ↓reduceIte, eq_self, if_true, if_false, c_in, c_tn, pn_add, pn_mul, pn_subc, pn_addm, c_le_t, c_le_f, c_lt_t, c_lt_f, c_eq_f, c_eqm, bi_z, bi_1, bi_b, bi_T, bi_F, ite_not, up_eq, up_ne, or_self, or_true, true_or, or_false, false_or, and_true, true_and, and_self, not_true_eq_false, not_false_eq_true, Bool.false_eq_true]
          · rw [ggR_readAllOf_3]
            simp -implicitDefEqProofs (disch := (first | omega | assumption | exact am_isS_3 | exact am_isS_25 | exact am_isX_356 | exact am_isX_359)) only [ggR_readAllOf_0, ggR_readAllOf_1, ggR_readAllOf_3, ggR_readAllOf_4, ggR_readAllOf_5, ggR_readAllOf_6, ccR_readAllOf_0_1, ccR_readAllOf_2_1, ccR_readAllOf_3_1, ccR_readAllOf_5_1, u2, em, am_kI_x, am_kV_x, am_kI_i, am_nI_i, am_kV_i, am_nV_i, ↓reduceIte, eq_self, if_true, if_false, c_in, c_tn, pn_add, pn_mul, pn_subc, pn_addm, c_le_t, c_le_f, c_lt_t, c_lt_f, c_eq_f, c_eqm, bi_z, bi_1, bi_b, bi_T, bi_F, ite_not, up_eq, up_ne, or_self, or_true, true_or, or_false, false_or, and_true, true_and, and_self, not_true_eq_false, not_false_eq_true, Bool.false_eq_true]
      have an2 := S2.2.2.1
      have TR2 := S2.2.2.2.1
      have FF := F.tr F2 hl0.1
      rw [gR]
      by_cases hq : cdx B E a1 = (Int32.ofNat (1000 + 11))
      · have et := fun d => xX_take_t am_isX_359 S2.1 S2.2.1 an2 (by omega) hq d
        have lt2 := TV_lt S2.1 an2 (by omega) hq
        have sg := fun d => rR_passes_t TR2 K1 (wd_at (id := 44) (w := 11) (by simp)) hq b1 d
        have K2 := (tk_word (hB_of TR2) (by omega : 11 < 23) hq).2
        have rr := ih (i + 1) (a1 + 1) l2 3 (true :: ts) _ hR2 (lte B E a1) (stt B E a1) (by omega) (by omega) (S2.at (a' := a1 + 1) (by omega)) K2 (FF.tr (CF.at (l := l0)) (Nat.le_refl l0)) (Or.inr ⟨by omega, rfl, by omega, by omega, by omega, rfl⟩)
        rw [gC1 _ et]
        have : am_go (am_cl (r + 6)) qR_readAllOf 2 [.ref 373] [] (rs hR2 p1 b1) = am_go (am_cl (r + 6)) qR_readAllOf 3 [.ref 373] [] (rs hR2 (lte B E a1) (stt B E a1)) := by
          rw [ggR_readAllOf_2]
          simp -implicitDefEqProofs (disch := (first | omega | assumption | exact am_isS_3 | exact am_isS_25 | exact am_isX_356 | exact am_isX_359)) only [ggR_readAllOf_0, ggR_readAllOf_1, ggR_readAllOf_4, ggR_readAllOf_5, ggR_readAllOf_6, ccR_readAllOf_0_1, ccR_readAllOf_2_1, ccR_readAllOf_3_1, ccR_readAllOf_5_1, sg, am_kI_x, am_kV_x, am_kI_i, am_nI_i, am_kV_i, am_nV_i, ↓reduceIte, eq_self, if_true, if_false, c_in, c_tn, pn_add, pn_mul, pn_subc, pn_addm, c_le_t, c_le_f, c_lt_t, c_lt_f, c_eq_f, c_eqm, bi_z, bi_1, bi_b, bi_T, bi_F, ite_not, up_eq, up_ne, or_self, or_true, true_or, or_false, false_or, and_true, true_and, and_self, not_true_eq_false, not_false_eq_true, Bool.false_eq_true]
        rw [this]
        exact rr
      · have et := fun d => xX_take_f am_isX_359 S2.1 S2.2.1 an2 hq d
        have sg := fun d => rR_passes_f TR2 K1 (wd_at (id := 44) (w := 11) (by simp)) hq b1 d
        refine Or.inr ⟨hC2, hR2, stt B E a1, stt B E a1, a1, l2, gC0 _ et, ?_, tk_st, by omega, g3, g2, S2, FF⟩
        rw [ggR_readAllOf_2]
        simp -implicitDefEqProofs (disch := (first | omega | assumption | exact am_isS_3 | exact am_isS_25 | exact am_isX_356 | exact am_isX_359)) only [ggR_readAllOf_0, ggR_readAllOf_1, ggR_readAllOf_3, ggR_readAllOf_4, ggR_readAllOf_5, ggR_readAllOf_6, ccR_readAllOf_0_1, ccR_readAllOf_2_1, ccR_readAllOf_3_1, ccR_readAllOf_5_1, sg, am_kI_x, am_kV_x, am_kI_i, am_nI_i, am_kV_i, am_nV_i, ↓reduceIte, eq_self, if_true, if_false, c_in, c_tn, pn_add, pn_mul, pn_subc, pn_addm, c_le_t, c_le_f, c_lt_t, c_lt_f, c_eq_f, c_eqm, bi_z, bi_1, bi_b, bi_T, bi_F, ite_not, up_eq, up_ne, or_self, or_true, true_or, or_false, false_or, and_true, true_and, and_self, not_true_eq_false, not_false_eq_true, Bool.false_eq_true]
theorem cond_l {B : Nat → Nat} {E n e D a0 l0 m C P : Nat} {ts : List Bool} {hC0 hR0 : am_H} (hm : m ≤ 20) (hts : ts.length ≤ m) (h0 : l0 + 2 ≤ a0) (hC4 : 4 ≤ C) (hP4 : 6 ≤ P) (hin : ∀ a l tsi hC hR p b, CB B E n e a l D tsi hC hR → Tk B E a p → l + 2 ≤ a → tsi.length ≤ m + 1 → CO B E n e a l D tsi true hC hR (am_cl C qY_readAll [.ref 359, .int (Int32.ofNat D)] hC) (am_cl P qR_readAllOf [.ref 373] (rs hR p b))) : ∀ (k i a l q : Nat) (tsi : List Bool) (hC hR : am_H) (p b : Nat), n < a + k → i + 2 ≤ a → CB B E n e a l D tsi hC hR → Tk B E a p → CF l0 hC0 hC hR0 hR → (i = 0 ∧ tsi = ts ∧ l0 ≤ l ∧ a0 ≤ a ∧ l + a0 ≤ l0 + a ∧ q = 0 ∨ 0 < i ∧ tsi = true :: ts ∧ l0 < l ∧ a0 < a ∧ l + 1 + a0 ≤ l0 + a ∧ q = 3) → CO B E n e a0 l0 D ts true hC0 hR0 (am_go (am_cl C) qY_readCondition 1 [.ref 359, .int (Int32.ofNat D), .int (Int32.ofNat i)] [] hC) (am_go (am_cl P) qR_readCond q [.ref 373] [] (rs hR p b)) := by
  obtain ⟨c, rfl⟩ : ∃ c, C = c + 4 := ⟨C - 4, by omega⟩
  obtain ⟨r, rfl⟩ : ∃ r, P = r + 6 := ⟨P - 6, by omega⟩
  intro k
  induction k with
  | zero =>
    intro i a l q tsi hC hR p b hk h2 S K F cs
    have := S.2.2.1
    omega
  | succ k ih =>
    intro i a l q tsi hC hR p b hk h2 S K F cs
    have n4 := S.1.1
    have an := S.2.2.1
    have hl0 : l0 ≤ l ∧ a0 ≤ a ∧ l + a0 ≤ l0 + a := by
      rcases cs with ⟨-, -, q1, q2, q3, -⟩ | ⟨-, -, q1, q2, q3, -⟩
      · exact ⟨q1, q2, q3⟩
      · exact ⟨by omega, by omega, by omega⟩
    have hl : l + 2 ≤ a := by omega
    have tl : tsi.length ≤ m + 1 := by
      rcases cs with ⟨-, rfl, -⟩ | ⟨-, rfl, -⟩
      · omega
      · simp; omega
    have f4 : ¬ ((Int32.ofNat 400) : Int32) ≤ (Int32.ofNat i) := by rw [pn_le (by omega) (by omega)]; omega
    rcases hin a l tsi hC hR p b S K hl tl with ⟨hC1, hR1, p1, a1, u1, u2, u3, u4, u5⟩ | ⟨hC1, hR1, p1, b1, a1, l1, u1, u2, K1, v1, v2, v3, S1, F1⟩
    · refine Or.inl ⟨hC1, hR1, p1, a1, ?_, ?_, u3, u4, F.tr u5 hl0.1⟩
      · simp -implicitDefEqProofs (disch := (first | omega | assumption | exact am_isS_3 | exact am_isS_25 | exact am_isX_356 | exact am_isX_359)) only [ggY_readCondition_1, ggY_readCondition_0, ggY_readCondition_2, ggY_readCondition_3, ggY_readCondition_4, ggY_readCondition_5, ggY_readCondition_6, ggY_readCondition_7, ggY_readCondition_8, ggY_readCondition_9, ccY_readCondition_2_1, ccY_readCondition_4_1, ccY_readCondition_6_1, f4, u1, am_kI_x, am_kV_x, am_kI_i, am_nI_i, am_kV_i, am_nV_i, ↓reduceIte, eq_self, if_true, if_false, c_in, c_tn, pn_add, pn_mul, pn_subc, pn_addm, c_le_t, c_le_f, c_lt_t, c_lt_f, c_eq_f, c_eqm, bi_z, bi_1, bi_b, bi_T, bi_F, ite_not, up_eq, up_ne, or_self, or_true, true_or, or_false, false_or, and_true, true_and, and_self, not_true_eq_false, not_false_eq_true, Bool.false_eq_true]
      · rcases cs with ⟨-, -, -, -, -, rfl⟩ | ⟨-, -, -, -, -, rfl⟩
        · simp -implicitDefEqProofs (disch := (first | omega | assumption | exact am_isS_3 | exact am_isS_25 | exact am_isX_356 | exact am_isX_359)) only [ggR_readCond_0, ggR_readCond_1, ggR_readCond_3, ggR_readCond_4, ggR_readCond_5, ggR_readCond_6, ccR_readCond_0_1, ccR_readCond_2_1, ccR_readCond_3_1, ccR_readCond_5_1, u2, am_kI_x, am_kV_x, am_kI_i, am_nI_i, am_kV_i, am_nV_i, ↓reduceIte, eq_self, if_true, if_false, c_in, c_tn, pn_add, pn_mul, pn_subc, pn_addm, c_le_t, c_le_f, c_lt_t, c_lt_f, c_eq_f, c_eqm, bi_z, bi_1, bi_b, bi_T, bi_F, ite_not, up_eq, up_ne, or_self, or_true, true_or, or_false, false_or, and_true, true_and, and_self, not_true_eq_false, not_false_eq_true, Bool.false_eq_true]
        · simp -implicitDefEqProofs (disch := (first | omega | assumption | exact am_isS_3 | exact am_isS_25 | exact am_isX_356 | exact am_isX_359)) only [ggR_readCond_0, ggR_readCond_1, ggR_readCond_3, ggR_readCond_4, ggR_readCond_5, ggR_readCond_6, ccR_readCond_0_1, ccR_readCond_2_1, ccR_readCond_3_1, ccR_readCond_5_1, u2, am_kI_x, am_kV_x, am_kI_i, am_nI_i, am_kV_i, am_nV_i, ↓reduceIte, eq_self, if_true, if_false, c_in, c_tn, pn_add, pn_mul, pn_subc, pn_addm, c_le_t, c_le_f, c_lt_t, c_lt_f, c_eq_f, c_eqm, bi_z, bi_1, bi_b, bi_T, bi_F, ite_not, up_eq, up_ne, or_self, or_true, true_or, or_false, false_or, and_true, true_and, and_self, not_true_eq_false, not_false_eq_true, Bool.false_eq_true]
    · have a1n := S1.2.2.1
      obtain ⟨l2, hC2, hR2, g2, g3, S2, F2, gC0, gC1, gR⟩ : ∃ l2 hC2 hR2, l2 + a0 ≤ l0 + a1 ∧ l0 < l2 ∧ CB B E n e a1 l2 D (true :: ts) hC2 hR2 ∧ CF l hC hC2 hR hR2 ∧ (∀ h', (∀ d, am_cl (d + 1) qX_take [.ref 359, .int (Int32.ofNat ((1000 + 12)))] hC2 = some (.inl (some ((Int32.ofNat 0))), h')) → am_go (am_cl (c + 4)) qY_readCondition 1 [.ref 359, .int (Int32.ofNat D), .int (Int32.ofNat i)] [] hC = some (.inl (some ((Int32.ofNat 1))), h')) ∧ (∀ h', (∀ d, am_cl (d + 1) qX_take [.ref 359, .int (Int32.ofNat ((1000 + 12)))] hC2 = some (.inl (some ((Int32.ofNat 1))), h')) → am_go (am_cl (c + 4)) qY_readCondition 1 [.ref 359, .int (Int32.ofNat D), .int (Int32.ofNat i)] [] hC = am_go (am_cl (c + 4)) qY_readCondition 1 [.ref 359, .int (Int32.ofNat D), .int (Int32.ofNat (i + 1))] [] h') ∧ am_go (am_cl (r + 6)) qR_readCond q [.ref 373] [] (rs hR p b) = am_go (am_cl (r + 6)) qR_readCond 2 [.ref 373] [] (rs hR2 p1 b1) := by
        rcases cs with ⟨rfl, rfl, q1, q2, q3, rfl⟩ | ⟨q0, rfl, q1, q2, q3, rfl⟩
        · refine ⟨l1, hC1, hR1, by omega, by omega, S1, F1, fun h' et => ?_, fun h' et => ?_, ?_⟩
          · simp -implicitDefEqProofs (disch := (first | omega | assumption | exact am_isS_3 | exact am_isS_25 | exact am_isX_356 | exact am_isX_359)) only [ggY_readCondition_1, ggY_readCondition_0, ggY_readCondition_2, ggY_readCondition_3, ggY_readCondition_4, ggY_readCondition_5, ggY_readCondition_6, ggY_readCondition_7, ggY_readCondition_8, ggY_readCondition_9, ccY_readCondition_2_1, ccY_readCondition_4_1, ccY_readCondition_6_1, u1, et, am_kI_x, am_kV_x, am_kI_i, am_nI_i, am_kV_i, am_nV_i, ↓reduceIte, eq_self, if_true, if_false, c_in, c_tn, pn_add, pn_mul, pn_subc, pn_addm, c_le_t, c_le_f, c_lt_t, c_lt_f, c_eq_f, c_eqm, bi_z, bi_1, bi_b, bi_T, bi_F, ite_not, up_eq, up_ne, or_self, or_true, true_or, or_false, false_or, and_true, true_and, and_self, not_true_eq_false, not_false_eq_true, Bool.false_eq_true]
          · rw [ggY_readCondition_1]
            simp -implicitDefEqProofs (disch := (first | omega | assumption | exact am_isS_3 | exact am_isS_25 | exact am_isX_356 | exact am_isX_359)) only [ggY_readCondition_0, ggY_readCondition_2, ggY_readCondition_3, ggY_readCondition_4, ggY_readCondition_5, ggY_readCondition_6, ggY_readCondition_7, ggY_readCondition_8, ggY_readCondition_9, ccY_readCondition_2_1, ccY_readCondition_4_1, ccY_readCondition_6_1, u1, et, am_kI_x, am_kV_x, am_kI_i, am_nI_i, am_kV_i, am_nV_i, ↓reduceIte, eq_self, if_true, if_false, c_in, c_tn, pn_add, pn_mul, pn_subc, pn_addm, c_le_t, c_le_f, c_lt_t, c_lt_f, c_eq_f, c_eqm, bi_z, bi_1, bi_b, bi_T, bi_F, ite_not, up_eq, up_ne, or_self, or_true, true_or, or_false, false_or, and_true, true_and, and_self, not_true_eq_false, not_false_eq_true, Bool.false_eq_true]
          · simp -implicitDefEqProofs (disch := (first | omega | assumption | exact am_isS_3 | exact am_isS_25 | exact am_isX_356 | exact am_isX_359)) only [ggR_readCond_0, ggR_readCond_1, ggR_readCond_3, ggR_readCond_4, ggR_readCond_5, ggR_readCond_6, ccR_readCond_0_1, ccR_readCond_2_1, ccR_readCond_3_1, ccR_readCond_5_1, u2, am_kI_x, am_kV_x, am_kI_i, am_nI_i, am_kV_i, am_nV_i, ↓reduceIte, eq_self, if_true, if_false, c_in, c_tn, pn_add, pn_mul, pn_subc, pn_addm, c_le_t, c_le_f, c_lt_t, c_lt_f, c_eq_f, c_eqm, bi_z, bi_1, bi_b, bi_T, bi_F, ite_not, up_eq, up_ne, or_self, or_true, true_or, or_false, false_or, and_true, true_and, and_self, not_true_eq_false, not_false_eq_true, Bool.false_eq_true]
        · have S1' := S1.put (k := 17) (x := (Int32.ofNat (1000 + 12))) (v := (Int32.ofNat 0)) (by omega) (tyk_tt (by omega) (by omega)) (by unfold cR; simp)
          have pp := fun d => xL_put S1.2.2.2.2.1 (by omega) (Int32.ofNat (1000 + 12)) d
          have em := fun d => rR_emits (p := p1) (b := b1) S1.2.2.2.2.2.1 (by omega) (Int32.ofNat 17) (Int32.ofNat 0) d
          have i0 : ¬ ((Int32.ofNat i) : Int32) ≤ (Int32.ofNat 0) := by rw [pn_le (by omega) (by omega)]; omega
          refine ⟨l1 + 1, ptc hC1 l1 (Int32.ofNat (1000 + 12)), emt hR1 l1 (Int32.ofNat 17) (Int32.ofNat 0), by omega, by omega, S1', F1.tr ((CF.pt (Nat.le_refl l1)).tr (CF.em (Nat.le_refl l1)) (Nat.le_refl l1)) (by omega), fun h' et => ?_, fun h' et => ?_, ?_⟩
          · simp -implicitDefEqProofs (disch := (first | omega | assumption | exact am_isS_3 | exact am_isS_25 | exact am_isX_356 | exact am_isX_359)) only [ggY_readCondition_1, ggY_readCondition_0, ggY_readCondition_2, ggY_readCondition_3, ggY_readCondition_4, ggY_readCondition_5, ggY_readCondition_6, ggY_readCondition_7, ggY_readCondition_8, ggY_readCondition_9, ccY_readCondition_2_1, ccY_readCondition_4_1, ccY_readCondition_6_1, f4, u1, i0, pp, et, am_kI_x, am_kV_x, am_kI_i, am_nI_i, am_kV_i, am_nV_i, ↓reduceIte, eq_self, if_true, if_false, c_in, c_tn, pn_add, pn_mul, pn_subc, pn_addm, c_le_t, c_le_f, c_lt_t, c_lt_f, c_eq_f, c_eqm, bi_z, bi_1, bi_b, bi_T, bi_F, ite_not, up_eq, up_ne, or_self, or_true, true_or, or_false, false_or, and_true, true_and, and_self, not_true_eq_false, not_false_eq_true, Bool.false_eq_true]
          · rw [ggY_readCondition_1]
            simp -implicitDefEqProofs (disch := (first | omega | assumption | exact am_isS_3 | exact am_isS_25 | exact am_isX_356 | exact am_isX_359)) only [ggY_readCondition_0, ggY_readCondition_2, ggY_readCondition_3, ggY_readCondition_4, ggY_readCondition_5, ggY_readCondition_6, ggY_readCondition_7, ggY_readCondition_8, ggY_readCondition_9, ccY_readCondition_2_1, ccY_readCondition_4_1, ccY_readCondition_6_1, f4, u1, i0, pp, et, am_kI_x, am_kV_x, am_kI_i, am_nI_i, am_kV_i, am_nV_i, ↓reduceIte, eq_self, if_true, if_false, c_in, c_tn, pn_add, pn_mul, pn_subc, pn_addm, c_le_t, c_le_f, c_lt_t, c_lt_f, c_eq_f, c_eqm, bi_z, bi_1, bi_b, bi_T, bi_F, ite_not, up_eq, up_ne, or_self, or_true, true_or, or_false, false_or, and_true, true_and, and_self, not_true_eq_false, not_false_eq_true, Bool.false_eq_true]
          · rw [ggR_readCond_3]
            simp -implicitDefEqProofs (disch := (first | omega | assumption | exact am_isS_3 | exact am_isS_25 | exact am_isX_356 | exact am_isX_359)) only [ggR_readCond_0, ggR_readCond_1, ggR_readCond_3, ggR_readCond_4, ggR_readCond_5, ggR_readCond_6, ccR_readCond_0_1, ccR_readCond_2_1, ccR_readCond_3_1, ccR_readCond_5_1, u2, em, am_kI_x, am_kV_x, am_kI_i, am_nI_i, am_kV_i, am_nV_i, ↓reduceIte, eq_self, if_true, if_false, c_in, c_tn, pn_add, pn_mul, pn_subc, pn_addm, c_le_t, c_le_f, c_lt_t, c_lt_f, c_eq_f, c_eqm, bi_z, bi_1, bi_b, bi_T, bi_F, ite_not, up_eq, up_ne, or_self, or_true, true_or, or_false, false_or, and_true, true_and, and_self, not_true_eq_false, not_false_eq_true, Bool.false_eq_true]
      have an2 := S2.2.2.1
      have TR2 := S2.2.2.2.1
      have FF := F.tr F2 hl0.1
      rw [gR]
      by_cases hq : cdx B E a1 = (Int32.ofNat (1000 + 12))
      · have et := fun d => xX_take_t am_isX_359 S2.1 S2.2.1 an2 (by omega) hq d
        have lt2 := TV_lt S2.1 an2 (by omega) hq
        have sg := fun d => rR_passes_t TR2 K1 (wd_at (id := 45) (w := 12) (by simp)) hq b1 d
        have K2 := (tk_word (hB_of TR2) (by omega : 12 < 23) hq).2
        have rr := ih (i + 1) (a1 + 1) l2 3 (true :: ts) _ hR2 (lte B E a1) (stt B E a1) (by omega) (by omega) (S2.at (a' := a1 + 1) (by omega)) K2 (FF.tr (CF.at (l := l0)) (Nat.le_refl l0)) (Or.inr ⟨by omega, rfl, by omega, by omega, by omega, rfl⟩)
        rw [gC1 _ et]
        have : am_go (am_cl (r + 6)) qR_readCond 2 [.ref 373] [] (rs hR2 p1 b1) = am_go (am_cl (r + 6)) qR_readCond 3 [.ref 373] [] (rs hR2 (lte B E a1) (stt B E a1)) := by
          rw [ggR_readCond_2]
          simp -implicitDefEqProofs (disch := (first | omega | assumption | exact am_isS_3 | exact am_isS_25 | exact am_isX_356 | exact am_isX_359)) only [ggR_readCond_0, ggR_readCond_1, ggR_readCond_4, ggR_readCond_5, ggR_readCond_6, ccR_readCond_0_1, ccR_readCond_2_1, ccR_readCond_3_1, ccR_readCond_5_1, sg, am_kI_x, am_kV_x, am_kI_i, am_nI_i, am_kV_i, am_nV_i, ↓reduceIte, eq_self, if_true, if_false, c_in, c_tn, pn_add, pn_mul, pn_subc, pn_addm, c_le_t, c_le_f, c_lt_t, c_lt_f, c_eq_f, c_eqm, bi_z, bi_1, bi_b, bi_T, bi_F, ite_not, up_eq, up_ne, or_self, or_true, true_or, or_false, false_or, and_true, true_and, and_self, not_true_eq_false, not_false_eq_true, Bool.false_eq_true]
        rw [this]
        exact rr
      · have et := fun d => xX_take_f am_isX_359 S2.1 S2.2.1 an2 hq d
        have sg := fun d => rR_passes_f TR2 K1 (wd_at (id := 45) (w := 12) (by simp)) hq b1 d
        refine Or.inr ⟨hC2, hR2, stt B E a1, stt B E a1, a1, l2, gC0 _ et, ?_, tk_st, by omega, g3, g2, S2, FF⟩
        rw [ggR_readCond_2]
        simp -implicitDefEqProofs (disch := (first | omega | assumption | exact am_isS_3 | exact am_isS_25 | exact am_isX_356 | exact am_isX_359)) only [ggR_readCond_0, ggR_readCond_1, ggR_readCond_3, ggR_readCond_4, ggR_readCond_5, ggR_readCond_6, ccR_readCond_0_1, ccR_readCond_2_1, ccR_readCond_3_1, ccR_readCond_5_1, sg, am_kI_x, am_kV_x, am_kI_i, am_nI_i, am_kV_i, am_nV_i, ↓reduceIte, eq_self, if_true, if_false, c_in, c_tn, pn_add, pn_mul, pn_subc, pn_addm, c_le_t, c_le_f, c_lt_t, c_lt_f, c_eq_f, c_eqm, bi_z, bi_1, bi_b, bi_T, bi_F, ite_not, up_eq, up_ne, or_self, or_true, true_or, or_false, false_or, and_true, true_and, and_self, not_true_eq_false, not_false_eq_true, Bool.false_eq_true]
