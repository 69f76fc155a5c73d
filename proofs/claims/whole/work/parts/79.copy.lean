/-! copies of states -/
theorem xS_copyTable_l {a b n m : Nat} (ka : am_kd a = 24) (la : am_ln a = n) (kb : am_kd b = 24) (lb : am_ln b = n) (ra : ∀ i, i < n → am_kd (a + 1 + i) = 20 ∧ am_ln (a + 1 + i) = m) (rb : ∀ i, i < n → am_kd (b + 1 + i) = 20 ∧ am_ln (b + 1 + i) = m) (dj : a + 1 + n ≤ b + 1 ∨ b + 1 + n ≤ a + 1) (hn : n < 1000) (hm : m < 1000) (d : Nat) : ∀ (k i : Nat) (h : am_H), i + k = n → ∃ h', am_go (am_cl d) qS_copyTable 1 [.ref a, .ref b, .int (Int32.ofNat i)] [] h = some (.inl none, h') ∧ h'.1 = h.1 ∧ (∀ r, i ≤ r → r < n → ∀ j, j < m → h'.2 (b + 1 + r) j = h.2 (a + 1 + r) j) ∧ ∀ p, (p < b + 1 + i ∨ b + 1 + n ≤ p) → h'.2 p = h.2 p := by
  intro k
  induction k with
  | zero =>
    intro i h hi
    have hi : i = n := by omega
    subst hi
    refine ⟨h, ?_, rfl, fun r h1 h2 => by omega, fun p _ => rfl⟩
    rw [ggS_copyTable_1]
    simp -implicitDefEqProofs (disch := (first | omega | assumption | exact am_isS_3 | exact am_isS_25 | exact am_isX_356 | exact am_isX_359)) only [ggS_copyTable_0, ggS_copyTable_2, ggS_copyTable_3, ggS_copyTable_4, ka, la, or24, am_kI_x, am_kV_x, am_kI_i, am_nI_i, am_kV_i, am_nV_i, ↓reduceIte, eq_self, if_true, if_false, c_in, c_tn, pn_add, pn_mul, pn_subc, pn_addm, c_le_t, c_le_f, c_lt_t, c_lt_f, c_eq_f, c_eqm, bi_z, bi_1, bi_b, bi_T, bi_F, ite_not, up_eq, up_ne, or_self, or_true, true_or, or_false, false_or, and_true, true_and, and_self, not_true_eq_false, not_false_eq_true, Bool.false_eq_true]
  | succ k ih =>
    intro i h hi
    obtain ⟨h', e, e1, e2, e3⟩ := ih (i + 1) (am_cp h (a + 1 + i) 0 (b + 1 + i) 0 m) (by omega)
    obtain ⟨qa, na⟩ := ra i (by omega)
    obtain ⟨qb, nb⟩ := rb i (by omega)
    refine ⟨h', ?_, e1, fun r h1 h2 j hj => ?_, fun p hp => ?_⟩
    · rw [ggS_copyTable_1]
      simp -implicitDefEqProofs (disch := (first | omega | assumption | exact am_isS_3 | exact am_isS_25 | exact am_isX_356 | exact am_isX_359)) only [ggS_copyTable_0, ggS_copyTable_2, ggS_copyTable_3, ggS_copyTable_4, ka, la, kb, lb, qa, na, qb, nb, or24, or20, pn_min, Nat.min_self, Nat.zero_add, Nat.le_refl, am_kI_x, am_kV_x, am_kI_i, am_nI_i, am_kV_i, am_nV_i, ↓reduceIte, eq_self, if_true, if_false, c_in, c_tn, pn_add, pn_mul, pn_subc, pn_addm, c_le_t, c_le_f, c_lt_t, c_lt_f, c_eq_f, c_eqm, bi_z, bi_1, bi_b, bi_T, bi_F, ite_not, up_eq, up_ne, or_self, or_true, true_or, or_false, false_or, and_true, true_and, and_self, not_true_eq_false, not_false_eq_true, Bool.false_eq_true]
      exact e
    · by_cases hq : r = i
      · subst hq
        rw [e3 _ (by omega), cp_in rfl (by omega) (by omega), show 0 + (j - 0) = j by omega]
      · rw [e2 r (by omega) h2 j hj, cp_ne (by omega)]
    · rw [e3 p (by omega), cp_o (by omega)]
theorem xS_copyTable {a b n m : Nat} (ka : am_kd a = 24) (la : am_ln a = n) (kb : am_kd b = 24) (lb : am_ln b = n) (ra : ∀ i, i < n → am_kd (a + 1 + i) = 20 ∧ am_ln (a + 1 + i) = m) (rb : ∀ i, i < n → am_kd (b + 1 + i) = 20 ∧ am_ln (b + 1 + i) = m) (dj : a + 1 + n ≤ b + 1 ∨ b + 1 + n ≤ a + 1) (hn : n < 1000) (hm : m < 1000) (d : Nat) (h : am_H) : ∃ h', am_cl (d + 1) qS_copyTable [.ref a, .ref b] h = some (.inl none, h') ∧ h'.1 = h.1 ∧ (∀ r, r < n → ∀ j, j < m → h'.2 (b + 1 + r) j = h.2 (a + 1 + r) j) ∧ ∀ p, (p < b + 1 ∨ b + 1 + n ≤ p) → h'.2 p = h.2 p := by
  obtain ⟨h', e, e1, e2, e3⟩ := xS_copyTable_l ka la kb lb ra rb dj hn hm d n 0 h (by omega)
  refine ⟨h', ?_, e1, fun r h1 j hj => e2 r (by omega) h1 j hj, fun p hp => e3 p (by omega)⟩
  rw [uS_copyTable, ggS_copyTable_0]
  exact e
theorem iSrt {o : Nat} (H : am_isS o) : ∀ i, i < 4 → am_kd (o + 1 + 1 + i) = 20 ∧ am_ln (o + 1 + 1 + i) = 9 := fun i hi => ⟨iSkt H hi, iSnt H hi⟩
theorem iSrc {o : Nat} (H : am_isS o) : ∀ i, i < 9 → am_kd (o + 6 + 1 + i) = 20 ∧ am_ln (o + 6 + 1 + i) = 8 := fun i hi => ⟨iSkc H hi, iSnc H hi⟩
theorem iSrl {o : Nat} (H : am_isS o) : ∀ i, i < 5 → am_kd (o + 16 + 1 + i) = 20 ∧ am_ln (o + 16 + 1 + i) = 8 := fun i hi => ⟨iSkl H hi, iSnl H hi⟩
theorem xS_copyFrom {o o' : Nat} (ho : am_isS o) (ho' : am_isS o') (dj : o + 22 ≤ o' ∨ o' + 22 ≤ o) (d : Nat) (h : am_H) : ∃ h', am_cl (d + 2) qS_copyFrom [.ref o, .ref (o')] h = some (.inl none, h') ∧ h'.1 = h.1 ∧ (∀ p, (p < o ∨ o + 22 ≤ p) → h'.2 p = h.2 p) ∧ (∀ i, 3 ≤ i → i ≤ 7 → h'.2 o i = h.2 o' i) ∧ (∀ k t, k < 4 → t < 9 → h'.2 (o + 2 + k) t = h.2 (o' + 2 + k) t) ∧ (∀ k c, k < 9 → c < 8 → h'.2 (o + 7 + k) c = h.2 (o' + 7 + k) c) ∧ (∀ k r, k < 5 → r < 8 → h'.2 (o + 17 + k) r = h.2 (o' + 17 + k) r) := by
  obtain ⟨h1, a1, b1, c1, d1⟩ := xS_copyTable (iSk_1 ho') (iSn_1 ho') (iSk_1 ho) (iSn_1 ho) (iSrt ho') (iSrt ho) (by omega) (by omega) (by omega) d h
  obtain ⟨h2, a2, b2, c2, d2⟩ := xS_copyTable (iSk_6 ho') (iSn_6 ho') (iSk_6 ho) (iSn_6 ho) (iSrc ho') (iSrc ho) (by omega) (by omega) (by omega) d h1
  obtain ⟨h3, a3, b3, c3, d3⟩ := xS_copyTable (iSk_16 ho') (iSn_16 ho') (iSk_16 ho) (iSn_16 ho) (iSrl ho') (iSrl ho) (by omega) (by omega) (by omega) d h2
  have e3 : ∀ p, (p < o + 2 ∨ o + 22 ≤ p) → h3.2 p = h.2 p := fun p hp => by rw [d3 p (by omega), d2 p (by omega), d1 p (by omega)]
  refine ⟨am_up (am_up (am_up (am_up (am_up h3 o 3 (h.2 o' 3)) o 4 (h.2 o' 4)) o 5 (h.2 o' 5)) o 6 (h.2 o' 6)) o 7 (h.2 o' 7), ?_, ?_, fun p hp => ?_, fun i i1 i2 => ?_, fun k t hk ht => ?_, fun k t hk ht => ?_, fun k t hk ht => ?_⟩
  · have q := e3 o' (by omega)
    simp -implicitDefEqProofs (disch := (first | omega | assumption | exact am_isS_3 | exact am_isS_25 | exact am_isX_356 | exact am_isX_359)) only [uS_copyFrom, ggS_copyFrom_0, ccS_copyFrom_0_3, ccS_copyFrom_0_2, ccS_copyFrom_0_1, a1, a2, a3, q, am_kI_x, am_kV_x, am_kI_i, am_nI_i, am_kV_i, am_nV_i, ↓reduceIte, eq_self, if_true, if_false, c_in, c_tn, pn_add, pn_mul, pn_subc, pn_addm, c_le_t, c_le_f, c_lt_t, c_lt_f, c_eq_f, c_eqm, bi_z, bi_1, bi_b, bi_T, bi_F, ite_not, up_eq, up_ne, or_self, or_true, true_or, or_false, false_or, and_true, true_and, and_self, not_true_eq_false, not_false_eq_true, Bool.false_eq_true]
  · show h3.1 = h.1
    rw [b3, b2, b1]
  · rw [up_o (by omega), up_o (by omega), up_o (by omega), up_o (by omega), up_o (by omega), e3 p (by omega)]
  · rcases (show i = 3 ∨ i = 4 ∨ i = 5 ∨ i = 6 ∨ i = 7 by omega) with rfl | rfl | rfl | rfl | rfl
    all_goals simp (disch := omega) only [up_eq, up_ne]
  · simp (disch := omega) only [up_ne]
    rw [d3 _ (by omega), d2 _ (by omega)]
    exact c1 k hk t ht
  · simp (disch := omega) only [up_ne]
    rw [d3 _ (by omega)]
    have := c2 k hk t ht
    rw [d1 (o' + 6 + 1 + k) (by omega)] at this
    exact this
  · simp (disch := omega) only [up_ne]
    have := c3 k hk t ht
    rw [d2 (o' + 16 + 1 + k) (by omega), d1 (o' + 16 + 1 + k) (by omega)] at this
    exact this
theorem RelS.copy {h h' : am_H} {o o' : Nat} {W : Nat → Int32} {N G : Nat} (R : RelS h o' W N G) (c1 : ∀ i, 3 ≤ i → i ≤ 7 → h'.2 o i = h.2 o' i) (c2 : ∀ k t, k < 4 → t < 9 → h'.2 (o + 2 + k) t = h.2 (o' + 2 + k) t) (c3 : ∀ k c, k < 9 → c < 8 → h'.2 (o + 7 + k) c = h.2 (o' + 7 + k) c) (c4 : ∀ k r, k < 5 → r < 8 → h'.2 (o + 17 + k) r = h.2 (o' + 17 + k) r) : RelS h' o W N G := by
  obtain ⟨r1, r2, r3, r4, r5, r6, r7, r8, r9, r10, r11, r12, r13⟩ := R
  refine ⟨r1, r2, r3, ?_, r5, ?_, ?_, ?_, ?_, ?_, ?_, ?_, ?_⟩
  · rw [c1 _ (by omega) (by omega)]; exact r4
  · rw [c1 _ (by omega) (by omega)]; exact r6
  · rw [c1 _ (by omega) (by omega)]; exact r7
  · rw [c1 _ (by omega) (by omega)]; exact r8
  · rw [c1 _ (by omega) (by omega)]; exact r9
  · rw [c2 _ _ (by omega) (by omega)]; exact r10
  · intro k' t hk' ht hh
    rw [c2 _ _ (by omega) (by omega)]; exact r11 k' t hk' ht hh
  · intro k' c' hk' hc'
    rw [c3 _ _ (by omega) (by omega)]; exact r12 k' c' hk' hc'
  · intro k' r hk' hr
    rw [c4 _ _ (by omega) (by omega)]; exact r13 k' r hk' hr
/-- a copy has the same state -/
theorem copy_rel {o o' : Nat} (ho : am_isS o) (ho' : am_isS o') (dj : o + 22 ≤ o' ∨ o' + 22 ≤ o) (d : Nat) (h : am_H) : ∃ h', am_cl (d + 2) qS_copyFrom [.ref o, .ref (o')] h = some (.inl none, h') ∧ h'.1 = h.1 ∧ (∀ p, (p < o ∨ o + 22 ≤ p) → h'.2 p = h.2 p) ∧ ∀ W N G, RelS h o' W N G → RelS h' o W N G := by
  obtain ⟨h', e, e1, e2, c1, c2, c3, c4⟩ := xS_copyFrom ho ho' dj d h
  exact ⟨h', e, e1, e2, fun W N G R => R.copy c1 c2 c3 c4⟩
