/-! copies of laws (mk90e.py) -/
theorem g_349_0 : am_tg 349 0 = 350 := rfl
theorem k_350 : am_kd 350 = 22 := rfl
theorem n_350 : am_ln 350 = 12 := rfl
theorem g_349_1 : am_tg 349 1 = 351 := rfl
theorem k_351 : am_kd 351 = 20 := rfl
theorem n_351 : am_ln 351 = 12 := rfl
theorem g_349_2 : am_tg 349 2 = 352 := rfl
theorem k_352 : am_kd 352 = 20 := rfl
theorem n_352 : am_ln 352 = 12 := rfl
theorem g_349_3 : am_tg 349 3 = 353 := rfl
theorem k_353 : am_kd 353 = 20 := rfl
theorem n_353 : am_ln 353 = 400 := rfl
theorem xL_cp_l_349_335 (d : Nat) : ∀ (k i : Nat) (h : am_H), i + k = 12 → lb h 335 → ∃ h', am_go (am_cl d) qL_copyFrom 1 [.ref 349, .ref 335, .int (Int32.ofNat i)] [] h = am_go (am_cl d) qL_copyFrom 3 [.ref 349, .ref 335, .int (Int32.ofNat 12)] [] h' ∧ h'.1 = h.1 ∧ (∀ q, q < 3 → ∀ j, i ≤ j → j < 12 → h'.2 (349 + 1 + q) j = h.2 (335 + 1 + q) j) ∧ (∀ q, q < 3 → ∀ j, j < i → h'.2 (349 + 1 + q) j = h.2 (349 + 1 + q) j) ∧ ∀ p, (p < 349 + 1 ∨ 349 + 4 ≤ p) → h'.2 p = h.2 p := by
  intro k
  induction k with
  | zero =>
    intro i h hi _
    have hi : i = 12 := by omega
    subst hi
    refine ⟨h, ?_, rfl, fun q hq j h1 h2 => by omega, fun q hq j _ => rfl, fun p _ => rfl⟩
    rw [ggL_copyFrom_1]
    simp -implicitDefEqProofs (disch := (first | omega | assumption | exact am_isS_3 | exact am_isS_25 | exact am_isX_356 | exact am_isX_359)) only [ggL_copyFrom_0, ggL_copyFrom_2, am_kI_x, am_kV_x, am_kI_i, am_nI_i, am_kV_i, am_nV_i, ↓reduceIte, eq_self, if_true, if_false, c_in, c_tn, pn_add, pn_mul, pn_subc, pn_addm, c_le_t, c_le_f, c_lt_t, c_lt_f, c_eq_f, c_eqm, bi_z, bi_1, bi_b, bi_T, bi_F, ite_not, up_eq, up_ne, or_self, or_true, true_or, or_false, false_or, and_true, true_and, and_self, not_true_eq_false, not_false_eq_true, Bool.false_eq_true]
  | succ k ih =>
    intro i h hi B
    have b0 := B i (by omega)
    have b0 : (h.2 336 i = (Int32.ofNat 0) ∨ h.2 336 i = (Int32.ofNat 1)) = True := eq_true b0
    obtain ⟨h', e, e1, e2, e3, e4⟩ := ih (i + 1) (am_up (am_up (am_up h 350 i (h.2 336 i)) 351 i (h.2 337 i)) 352 i (h.2 338 i)) (by omega) (fun j hj => by
      show (am_up _ _ _ _).2 336 j = _ ∨ (am_up _ _ _ _).2 336 j = _
      rw [up_ne (by omega), up_ne (by omega), up_ne (by omega)]
      exact B j hj)
    refine ⟨h', ?_, e1, fun q hq j h1 h2 => ?_, fun q hq j h1 => ?_, fun p hp => ?_⟩
    · rw [ggL_copyFrom_1]
      simp -implicitDefEqProofs (disch := (first | omega | assumption | exact am_isS_3 | exact am_isS_25 | exact am_isX_356 | exact am_isX_359)) only [ggL_copyFrom_0, ggL_copyFrom_2, k_349, k_335, kk_2_2, g_349_0, g_349_1, g_349_2, g_349_3, g_335_0, g_335_1, g_335_2, g_335_3, k_350, k_351, k_352, k_353, k_336, k_337, k_338, k_339, n_350, n_351, n_352, n_353, n_336, n_337, n_338, n_339, b0, am_kI_x, am_kV_x, am_kI_i, am_nI_i, am_kV_i, am_nV_i, ↓reduceIte, eq_self, if_true, if_false, c_in, c_tn, pn_add, pn_mul, pn_subc, pn_addm, c_le_t, c_le_f, c_lt_t, c_lt_f, c_eq_f, c_eqm, bi_z, bi_1, bi_b, bi_T, bi_F, ite_not, up_eq, up_ne, or_self, or_true, true_or, or_false, false_or, and_true, true_and, and_self, not_true_eq_false, not_false_eq_true, Bool.false_eq_true]
      exact e
    · by_cases hj : j = i
      · subst hj
        rw [e3 q hq j (by omega)]
        rcases (show q = 0 ∨ q = 1 ∨ q = 2 by omega) with rfl | rfl | rfl
        all_goals simp (disch := omega) only [up_eq, up_ne]
      · rw [e2 q hq j (by omega) h2]
        simp (disch := omega) only [up_ne]
    · rw [e3 q hq j (by omega)]
      simp (disch := omega) only [up_ne]
    · rw [e4 p hp, up_o (by omega), up_o (by omega), up_o (by omega)]
theorem xL_cp_349_335 (d : Nat) (h : am_H) (B : lb h 335) : ∃ h', am_cl (d + 1) qL_copyFrom [.ref 349, .ref 335] h = some (.inl none, h') ∧ h'.1 = h.1 ∧ (∀ p, (p < 349 ∨ 349 + 5 ≤ p) → h'.2 p = h.2 p) ∧ lb h' 349 ∧ ∀ W, RelL h 335 W → RelL h' 349 W := by
  obtain ⟨h1, e, e1, e2, e3, e4⟩ := xL_cp_l_349_335 d 12 0 h (by omega) B
  have q1 : ∀ i, i < 12 → h1.2 350 i = h.2 336 i := fun i hi => e2 0 (by omega) i (by omega) hi
  have q2 : ∀ i, i < 12 → h1.2 351 i = h.2 337 i := fun i hi => e2 1 (by omega) i (by omega) hi
  have q3 : ∀ i, i < 12 → h1.2 352 i = h.2 338 i := fun i hi => e2 2 (by omega) i (by omega) hi
  have hb : ∀ i, i < 12 → (am_up (am_up (am_cp h1 339 0 353 0 400) 349 6 (h.2 335 6)) 349 7 (h.2 335 7)).2 (349 + 1) i = h.2 (335 + 1) i := fun i hi => by
    rw [up_ne (by omega), up_ne (by omega), cp_ne (by omega)]; exact q1 i hi
  refine ⟨am_up (am_up (am_cp h1 339 0 353 0 400) 349 6 (h.2 335 6)) 349 7 (h.2 335 7), ?_, e1, fun p hp => ?_, fun i hi => by rw [hb i hi]; exact B i hi, fun W RL => ?_⟩
  · have z := e4 335 (by omega)
    rw [uL_copyFrom, ggL_copyFrom_0, e]
    simp -implicitDefEqProofs (disch := (first | omega | assumption | exact am_isS_3 | exact am_isS_25 | exact am_isX_356 | exact am_isX_359)) only [ggL_copyFrom_0, ggL_copyFrom_2, ggL_copyFrom_3, k_349, k_335, kk_2_2, g_349_0, g_349_1, g_349_2, g_349_3, g_335_0, g_335_1, g_335_2, g_335_3, k_350, k_351, k_352, k_353, k_336, k_337, k_338, k_339, n_350, n_351, n_352, n_353, n_336, n_337, n_338, n_339, z, cp_o, Nat.zero_add, Nat.le_refl, am_kI_x, am_kV_x, am_kI_i, am_nI_i, am_kV_i, am_nV_i, ↓reduceIte, eq_self, if_true, if_false, c_in, c_tn, pn_add, pn_mul, pn_subc, pn_addm, c_le_t, c_le_f, c_lt_t, c_lt_f, c_eq_f, c_eqm, bi_z, bi_1, bi_b, bi_T, bi_F, ite_not, up_eq, up_ne, or_self, or_true, true_or, or_false, false_or, and_true, true_and, and_self, not_true_eq_false, not_false_eq_true, Bool.false_eq_true]
  · rw [up_o (by omega), up_o (by omega), cp_o (by omega)]
    exact e4 p (by omega)
  · refine ⟨fun i hi => by rw [hb i hi]; exact B i hi, ?_⟩
    rcases RL.2 with ⟨a, b⟩ | ⟨a, L, E, K, n, T, C⟩
    · left
      refine ⟨a, ?_⟩
      rw [up_ne (by omega), up_eq rfl rfl]; exact b
    · right
      obtain ⟨c1, c2, c3⟩ := C
      have t1 := T.1
      have t4 := T.2.2.2.1
      refine ⟨a, L, E, K, n, T, ?_, fun i hi => ?_, fun j hj => ?_⟩
      · rw [up_ne (by omega), up_eq rfl rfl]; exact c1
      · rw [hb i (by omega)]
        obtain ⟨z1, z2, z3⟩ := c2 i hi
        refine ⟨?_, z2, ?_⟩
        · rw [up_ne (by omega), up_ne (by omega), cp_ne (by omega)]
          exact (q3 i (by omega)).trans z1
        · rw [up_ne (by omega), up_ne (by omega), cp_ne (by omega)]
          exact (q2 i (by omega)).trans z3
      · rw [up_ne (by omega), up_ne (by omega), cp_in (by omega) (by omega) (by omega), show 0 + (j - 0) = j by omega]
        have z := e4 339 (by omega)
        rw [z]
        exact c3 j hj
theorem xL_cp_l_335_349 (d : Nat) : ∀ (k i : Nat) (h : am_H), i + k = 12 → lb h 349 → ∃ h', am_go (am_cl d) qL_copyFrom 1 [.ref 335, .ref 349, .int (Int32.ofNat i)] [] h = am_go (am_cl d) qL_copyFrom 3 [.ref 335, .ref 349, .int (Int32.ofNat 12)] [] h' ∧ h'.1 = h.1 ∧ (∀ q, q < 3 → ∀ j, i ≤ j → j < 12 → h'.2 (335 + 1 + q) j = h.2 (349 + 1 + q) j) ∧ (∀ q, q < 3 → ∀ j, j < i → h'.2 (335 + 1 + q) j = h.2 (335 + 1 + q) j) ∧ ∀ p, (p < 335 + 1 ∨ 335 + 4 ≤ p) → h'.2 p = h.2 p := by
  intro k
  induction k with
  | zero =>
    intro i h hi _
    have hi : i = 12 := by omega
    subst hi
    refine ⟨h, ?_, rfl, fun q hq j h1 h2 => by omega, fun q hq j _ => rfl, fun p _ => rfl⟩
    rw [ggL_copyFrom_1]
    simp -implicitDefEqProofs (disch := (first | omega | assumption | exact am_isS_3 | exact am_isS_25 | exact am_isX_356 | exact am_isX_359)) only [ggL_copyFrom_0, ggL_copyFrom_2, am_kI_x, am_kV_x, am_kI_i, am_nI_i, am_kV_i, am_nV_i, ↓reduceIte, eq_self, if_true, if_false, c_in, c_tn, pn_add, pn_mul, pn_subc, pn_addm, c_le_t, c_le_f, c_lt_t, c_lt_f, c_eq_f, c_eqm, bi_z, bi_1, bi_b, bi_T, bi_F, ite_not, up_eq, up_ne, or_self, or_true, true_or, or_false, false_or, and_true, true_and, and_self, not_true_eq_false, not_false_eq_true, Bool.false_eq_true]
  | succ k ih =>
    intro i h hi B
    have b0 := B i (by omega)
    have b0 : (h.2 350 i = (Int32.ofNat 0) ∨ h.2 350 i = (Int32.ofNat 1)) = True := eq_true b0
    obtain ⟨h', e, e1, e2, e3, e4⟩ := ih (i + 1) (am_up (am_up (am_up h 336 i (h.2 350 i)) 337 i (h.2 351 i)) 338 i (h.2 352 i)) (by omega) (fun j hj => by
      show (am_up _ _ _ _).2 350 j = _ ∨ (am_up _ _ _ _).2 350 j = _
      rw [up_ne (by omega), up_ne (by omega), up_ne (by omega)]
      exact B j hj)
    refine ⟨h', ?_, e1, fun q hq j h1 h2 => ?_, fun q hq j h1 => ?_, fun p hp => ?_⟩
    · rw [ggL_copyFrom_1]
      simp -implicitDefEqProofs (disch := (first | omega | assumption | exact am_isS_3 | exact am_isS_25 | exact am_isX_356 | exact am_isX_359)) only [ggL_copyFrom_0, ggL_copyFrom_2, k_335, k_349, kk_2_2, g_335_0, g_335_1, g_335_2, g_335_3, g_349_0, g_349_1, g_349_2, g_349_3, k_336, k_337, k_338, k_339, k_350, k_351, k_352, k_353, n_336, n_337, n_338, n_339, n_350, n_351, n_352, n_353, b0, am_kI_x, am_kV_x, am_kI_i, am_nI_i, am_kV_i, am_nV_i, ↓reduceIte, eq_self, if_true, if_false, c_in, c_tn, pn_add, pn_mul, pn_subc, pn_addm, c_le_t, c_le_f, c_lt_t, c_lt_f, c_eq_f, c_eqm, bi_z, bi_1, bi_b, bi_T, bi_F, ite_not, up_eq, up_ne, or_self, or_true, true_or, or_false, false_or, and_true, true_and, and_self, not_true_eq_false, not_false_eq_true, Bool.false_eq_true]
      exact e
    · by_cases hj : j = i
      · subst hj
        rw [e3 q hq j (by omega)]
        rcases (show q = 0 ∨ q = 1 ∨ q = 2 by omega) with rfl | rfl | rfl
        all_goals simp (disch := omega) only [up_eq, up_ne]
      · rw [e2 q hq j (by omega) h2]
        simp (disch := omega) only [up_ne]
    · rw [e3 q hq j (by omega)]
      simp (disch := omega) only [up_ne]
    · rw [e4 p hp, up_o (by omega), up_o (by omega), up_o (by omega)]
theorem xL_cp_335_349 (d : Nat) (h : am_H) (B : lb h 349) : ∃ h', am_cl (d + 1) qL_copyFrom [.ref 335, .ref 349] h = some (.inl none, h') ∧ h'.1 = h.1 ∧ (∀ p, (p < 335 ∨ 335 + 5 ≤ p) → h'.2 p = h.2 p) ∧ lb h' 335 ∧ ∀ W, RelL h 349 W → RelL h' 335 W := by
  obtain ⟨h1, e, e1, e2, e3, e4⟩ := xL_cp_l_335_349 d 12 0 h (by omega) B
  have q1 : ∀ i, i < 12 → h1.2 336 i = h.2 350 i := fun i hi => e2 0 (by omega) i (by omega) hi
  have q2 : ∀ i, i < 12 → h1.2 337 i = h.2 351 i := fun i hi => e2 1 (by omega) i (by omega) hi
  have q3 : ∀ i, i < 12 → h1.2 338 i = h.2 352 i := fun i hi => e2 2 (by omega) i (by omega) hi
  have hb : ∀ i, i < 12 → (am_up (am_up (am_cp h1 353 0 339 0 400) 335 6 (h.2 349 6)) 335 7 (h.2 349 7)).2 (335 + 1) i = h.2 (349 + 1) i := fun i hi => by
    rw [up_ne (by omega), up_ne (by omega), cp_ne (by omega)]; exact q1 i hi
  refine ⟨am_up (am_up (am_cp h1 353 0 339 0 400) 335 6 (h.2 349 6)) 335 7 (h.2 349 7), ?_, e1, fun p hp => ?_, fun i hi => by rw [hb i hi]; exact B i hi, fun W RL => ?_⟩
  · have z := e4 349 (by omega)
    rw [uL_copyFrom, ggL_copyFrom_0, e]
    simp -implicitDefEqProofs (disch := (first | omega | assumption | exact am_isS_3 | exact am_isS_25 | exact am_isX_356 | exact am_isX_359)) only [ggL_copyFrom_0, ggL_copyFrom_2, ggL_copyFrom_3, k_335, k_349, kk_2_2, g_335_0, g_335_1, g_335_2, g_335_3, g_349_0, g_349_1, g_349_2, g_349_3, k_336, k_337, k_338, k_339, k_350, k_351, k_352, k_353, n_336, n_337, n_338, n_339, n_350, n_351, n_352, n_353, z, cp_o, Nat.zero_add, Nat.le_refl, am_kI_x, am_kV_x, am_kI_i, am_nI_i, am_kV_i, am_nV_i, ↓reduceIte, eq_self, if_true, if_false, c_in, c_tn, pn_add, pn_mul, pn_subc, pn_addm, c_le_t, c_le_f, c_lt_t, c_lt_f, c_eq_f, c_eqm, bi_z, bi_1, bi_b, bi_T, bi_F, ite_not, up_eq, up_ne, or_self, or_true, true_or, or_false, false_or, and_true, true_and, and_self, not_true_eq_false, not_false_eq_true, Bool.false_eq_true]
  · rw [up_o (by omega), up_o (by omega), cp_o (by omega)]
    exact e4 p (by omega)
  · refine ⟨fun i hi => by rw [hb i hi]; exact B i hi, ?_⟩
    rcases RL.2 with ⟨a, b⟩ | ⟨a, L, E, K, n, T, C⟩
    · left
      refine ⟨a, ?_⟩
      rw [up_ne (by omega), up_eq rfl rfl]; exact b
    · right
      obtain ⟨c1, c2, c3⟩ := C
      have t1 := T.1
      have t4 := T.2.2.2.1
      refine ⟨a, L, E, K, n, T, ?_, fun i hi => ?_, fun j hj => ?_⟩
      · rw [up_ne (by omega), up_eq rfl rfl]; exact c1
      · rw [hb i (by omega)]
        obtain ⟨z1, z2, z3⟩ := c2 i hi
        refine ⟨?_, z2, ?_⟩
        · rw [up_ne (by omega), up_ne (by omega), cp_ne (by omega)]
          exact (q3 i (by omega)).trans z1
        · rw [up_ne (by omega), up_ne (by omega), cp_ne (by omega)]
          exact (q2 i (by omega)).trans z3
      · rw [up_ne (by omega), up_ne (by omega), cp_in (by omega) (by omega) (by omega), show 0 + (j - 0) = j by omega]
        have z := e4 353 (by omega)
        rw [z]
        exact c3 j hj
theorem xL_cp_l_335_342 (d : Nat) : ∀ (k i : Nat) (h : am_H), i + k = 12 → lb h 342 → ∃ h', am_go (am_cl d) qL_copyFrom 1 [.ref 335, .ref 342, .int (Int32.ofNat i)] [] h = am_go (am_cl d) qL_copyFrom 3 [.ref 335, .ref 342, .int (Int32.ofNat 12)] [] h' ∧ h'.1 = h.1 ∧ (∀ q, q < 3 → ∀ j, i ≤ j → j < 12 → h'.2 (335 + 1 + q) j = h.2 (342 + 1 + q) j) ∧ (∀ q, q < 3 → ∀ j, j < i → h'.2 (335 + 1 + q) j = h.2 (335 + 1 + q) j) ∧ ∀ p, (p < 335 + 1 ∨ 335 + 4 ≤ p) → h'.2 p = h.2 p := by
  intro k
  induction k with
  | zero =>
    intro i h hi _
    have hi : i = 12 := by omega
    subst hi
    refine ⟨h, ?_, rfl, fun q hq j h1 h2 => by omega, fun q hq j _ => rfl, fun p _ => rfl⟩
    rw [ggL_copyFrom_1]
    simp -implicitDefEqProofs (disch := (first | omega | assumption | exact am_isS_3 | exact am_isS_25 | exact am_isX_356 | exact am_isX_359)) only [ggL_copyFrom_0, ggL_copyFrom_2, am_kI_x, am_kV_x, am_kI_i, am_nI_i, am_kV_i, am_nV_i, ↓reduceIte, eq_self, if_true, if_false, c_in, c_tn, pn_add, pn_mul, pn_subc, pn_addm, c_le_t, c_le_f, c_lt_t, c_lt_f, c_eq_f, c_eqm, bi_z, bi_1, bi_b, bi_T, bi_F, ite_not, up_eq, up_ne, or_self, or_true, true_or, or_false, false_or, and_true, true_and, and_self, not_true_eq_false, not_false_eq_true, Bool.false_eq_true]
  | succ k ih =>
    intro i h hi B
    have b0 := B i (by omega)
    have b0 : (h.2 343 i = (Int32.ofNat 0) ∨ h.2 343 i = (Int32.ofNat 1)) = True := eq_true b0
    obtain ⟨h', e, e1, e2, e3, e4⟩ := ih (i + 1) (am_up (am_up (am_up h 336 i (h.2 343 i)) 337 i (h.2 344 i)) 338 i (h.2 345 i)) (by omega) (fun j hj => by
      show (am_up _ _ _ _).2 343 j = _ ∨ (am_up _ _ _ _).2 343 j = _
      rw [up_ne (by omega), up_ne (by omega), up_ne (by omega)]
      exact B j hj)
    refine ⟨h', ?_, e1, fun q hq j h1 h2 => ?_, fun q hq j h1 => ?_, fun p hp => ?_⟩
    · rw [ggL_copyFrom_1]
      simp -implicitDefEqProofs (disch := (first | omega | assumption | exact am_isS_3 | exact am_isS_25 | exact am_isX_356 | exact am_isX_359)) only [ggL_copyFrom_0, ggL_copyFrom_2, k_335, k_342, kk_2_2, g_335_0, g_335_1, g_335_2, g_335_3, g_342_0, g_342_1, g_342_2, g_342_3, k_336, k_337, k_338, k_339, k_343, k_344, k_345, k_346, n_336, n_337, n_338, n_339, n_343, n_344, n_345, n_346, b0, am_kI_x, am_kV_x, am_kI_i, am_nI_i, am_kV_i, am_nV_i, ↓reduceIte, eq_self, if_true, if_false, c_in, c_tn, pn_add, pn_mul, pn_subc, pn_addm, c_le_t, c_le_f, c_lt_t, c_lt_f, c_eq_f, c_eqm, bi_z, bi_1, bi_b, bi_T, bi_F, ite_not, up_eq, up_ne, or_self, or_true, true_or, or_false, false_or, and_true, true_and, and_self, not_true_eq_false, not_false_eq_true, Bool.false_eq_true]
      exact e
    · by_cases hj : j = i
      · subst hj
        rw [e3 q hq j (by omega)]
        rcases (show q = 0 ∨ q = 1 ∨ q = 2 by omega) with rfl | rfl | rfl
        all_goals simp (disch := omega) only [up_eq, up_ne]
      · rw [e2 q hq j (by omega) h2]
        simp (disch := omega) only [up_ne]
    · rw [e3 q hq j (by omega)]
      simp (disch := omega) only [up_ne]
    · rw [e4 p hp, up_o (by omega), up_o (by omega), up_o (by omega)]
theorem xL_cp_335_342 (d : Nat) (h : am_H) (B : lb h 342) : ∃ h', am_cl (d + 1) qL_copyFrom [.ref 335, .ref 342] h = some (.inl none, h') ∧ h'.1 = h.1 ∧ (∀ p, (p < 335 ∨ 335 + 5 ≤ p) → h'.2 p = h.2 p) ∧ lb h' 335 ∧ ∀ W, RelL h 342 W → RelL h' 335 W := by
  obtain ⟨h1, e, e1, e2, e3, e4⟩ := xL_cp_l_335_342 d 12 0 h (by omega) B
  have q1 : ∀ i, i < 12 → h1.2 336 i = h.2 343 i := fun i hi => e2 0 (by omega) i (by omega) hi
  have q2 : ∀ i, i < 12 → h1.2 337 i = h.2 344 i := fun i hi => e2 1 (by omega) i (by omega) hi
  have q3 : ∀ i, i < 12 → h1.2 338 i = h.2 345 i := fun i hi => e2 2 (by omega) i (by omega) hi
  have hb : ∀ i, i < 12 → (am_up (am_up (am_cp h1 346 0 339 0 400) 335 6 (h.2 342 6)) 335 7 (h.2 342 7)).2 (335 + 1) i = h.2 (342 + 1) i := fun i hi => by
    rw [up_ne (by omega), up_ne (by omega), cp_ne (by omega)]; exact q1 i hi
  refine ⟨am_up (am_up (am_cp h1 346 0 339 0 400) 335 6 (h.2 342 6)) 335 7 (h.2 342 7), ?_, e1, fun p hp => ?_, fun i hi => by rw [hb i hi]; exact B i hi, fun W RL => ?_⟩
  · have z := e4 342 (by omega)
    rw [uL_copyFrom, ggL_copyFrom_0, e]
    simp -implicitDefEqProofs (disch := (first | omega | assumption | exact am_isS_3 | exact am_isS_25 | exact am_isX_356 | exact am_isX_359)) only [ggL_copyFrom_0, ggL_copyFrom_2, ggL_copyFrom_3, k_335, k_342, kk_2_2, g_335_0, g_335_1, g_335_2, g_335_3, g_342_0, g_342_1, g_342_2, g_342_3, k_336, k_337, k_338, k_339, k_343, k_344, k_345, k_346, n_336, n_337, n_338, n_339, n_343, n_344, n_345, n_346, z, cp_o, Nat.zero_add, Nat.le_refl, am_kI_x, am_kV_x, am_kI_i, am_nI_i, am_kV_i, am_nV_i, ↓reduceIte, eq_self, if_true, if_false, c_in, c_tn, pn_add, pn_mul, pn_subc, pn_addm, c_le_t, c_le_f, c_lt_t, c_lt_f, c_eq_f, c_eqm, bi_z, bi_1, bi_b, bi_T, bi_F, ite_not, up_eq, up_ne, or_self, or_true, true_or, or_false, false_or, and_true, true_and, and_self, not_true_eq_false, not_false_eq_true, Bool.false_eq_true]
  · rw [up_o (by omega), up_o (by omega), cp_o (by omega)]
    exact e4 p (by omega)
  · refine ⟨fun i hi => by rw [hb i hi]; exact B i hi, ?_⟩
    rcases RL.2 with ⟨a, b⟩ | ⟨a, L, E, K, n, T, C⟩
    · left
      refine ⟨a, ?_⟩
      rw [up_ne (by omega), up_eq rfl rfl]; exact b
    · right
      obtain ⟨c1, c2, c3⟩ := C
      have t1 := T.1
      have t4 := T.2.2.2.1
      refine ⟨a, L, E, K, n, T, ?_, fun i hi => ?_, fun j hj => ?_⟩
      · rw [up_ne (by omega), up_eq rfl rfl]; exact c1
      · rw [hb i (by omega)]
        obtain ⟨z1, z2, z3⟩ := c2 i hi
        refine ⟨?_, z2, ?_⟩
        · rw [up_ne (by omega), up_ne (by omega), cp_ne (by omega)]
          exact (q3 i (by omega)).trans z1
        · rw [up_ne (by omega), up_ne (by omega), cp_ne (by omega)]
          exact (q2 i (by omega)).trans z3
      · rw [up_ne (by omega), up_ne (by omega), cp_in (by omega) (by omega) (by omega), show 0 + (j - 0) = j by omega]
        have z := e4 346 (by omega)
        rw [z]
        exact c3 j hj
