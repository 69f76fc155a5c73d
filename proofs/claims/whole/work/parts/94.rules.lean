/-! the laws of leading that lives allow -/
def fbN (v : Nat → Nat) (r t : Nat) : Nat := v t * (r / 100) + r % 100
theorem fbN_lt {v : Nat → Nat} {r t : Nat} (hv : v t ≤ 99) (hr : r < 1000) : fbN v r t < 1000 := by
  unfold fbN
  have h1 : r / 100 ≤ 9 := by omega
  have := Nat.mul_le_mul hv h1
  omega
theorem xU_fateBy {h : am_H} {W : Nat → Int32} {N G : Nat} (R : RelS h 3 W N G) {v : Nat → Nat} (hv : ∀ t, t < 9 → v t ≤ 99 ∧ W (7 + 4 * t + 3) = (Int32.ofNat (v t))) {r t : Nat} (hr : r < 1000) (ht : t < 9) (d : Nat) : am_cl (d + 1) qU_fateBy [.ref 3, .int (Int32.ofNat r), .int (Int32.ofNat t)] h = some (.inl (some ((Int32.ofNat (fbN v r t)))), h) := by
  have r11 := R.2.2.2.2.2.2.2.2.2.2.1 3 t (by omega) ht (by omega)
  have ev := (hv t ht).2
  unfold fbN
  have hm : r - r / 100 * 100 = r % 100 := by omega
  simp -implicitDefEqProofs (disch := (first | omega | assumption | exact am_isS_3 | exact am_isS_25 | exact am_isX_356 | exact am_isX_359)) only [uU_fateBy, ggU_fateBy_0, r11, ev, pn_div, hm, am_kI_x, am_kV_x, am_kI_i, am_nI_i, am_kV_i, am_nV_i, ↓reduceIte, eq_self, if_true, if_false, c_in, c_tn, pn_add, pn_mul, pn_subc, pn_addm, c_le_t, c_le_f, c_lt_t, c_lt_f, c_eq_f, c_eqm, bi_z, bi_1, bi_b, bi_T, bi_F, ite_not, up_eq, up_ne, or_self, or_true, true_or, or_false, false_or, and_true, true_and, and_self, not_true_eq_false, not_false_eq_true, Bool.false_eq_true]
theorem rR_fateBy {h : am_H} {v : Nat → Nat} (hv : ∀ t, t < 9 → v t ≤ 99 ∧ h.2 374 (7 + 4 * t + 3) = (Int32.ofNat (v t))) {r t : Nat} (hr : r < 1000) (ht : t < 9) (d : Nat) : am_cl (d + 3) qR_fateBy [.ref 373, .int (Int32.ofNat r), .int (Int32.ofNat t)] h = some (.inl (some ((Int32.ofNat (fbN v r t)))), h) := by
  have ev := (hv t ht).2
  unfold fbN
  have hm : r - r / 100 * 100 = r % 100 := by omega
  simp -implicitDefEqProofs (disch := (first | omega | assumption | exact am_isS_3 | exact am_isS_25 | exact am_isX_356 | exact am_isX_359)) only [uR_fateBy, ggR_fateBy_0, ccR_fateBy_0_1, rR_ofThing, ev, pn_div, hm, am_kI_x, am_kV_x, am_kI_i, am_nI_i, am_kV_i, am_nV_i, ↓reduceIte, eq_self, if_true, if_false, c_in, c_tn, pn_add, pn_mul, pn_subc, pn_addm, c_le_t, c_le_f, c_lt_t, c_lt_f, c_eq_f, c_eqm, bi_z, bi_1, bi_b, bi_T, bi_F, ite_not, up_eq, up_ne, or_self, or_true, true_or, or_false, false_or, and_true, true_and, and_self, not_true_eq_false, not_false_eq_true, Bool.false_eq_true]
def frN (v B : Nat → Nat) (r i : Nat) : Bool := decide (fbN v r (B (2 * i)) = B (2 * i + 1))
def toldL (hC hR : am_H) (B : Nat → Nat) (n : Nat) : Prop := n ≤ 20 ∧ hC.2 1 2 = (Int32.ofNat n) ∧ hR.2 373 11 = (Int32.ofNat (2 * n)) ∧ bts hC hR B ∧ ∀ i, i < n → B (2 * i) ≤ 7
theorem toldL.of {hC hR hC' hR' : am_H} {B : Nat → Nat} {n : Nat} (T : toldL hC hR B n) (f1 : hC'.2 1 2 = hC.2 1 2) (f2 : hC'.2 2 = hC.2 2) (g1 : hR'.2 373 11 = hR.2 373 11) (g2 : hR'.2 379 = hR.2 379) : toldL hC' hR' B n := by
  obtain ⟨a, b, c, e, k⟩ := T
  exact ⟨a, f1.trans b, g1.trans c, fun i hi => by rw [f2, g2]; exact e i hi, k⟩
theorem xU_fitsRows {hC hR : am_H} {W : Nat → Int32} {N G n r : Nat} {B v : Nat → Nat} (R : RelS hC 3 W N G) (hv : ∀ t, t < 9 → v t ≤ 99 ∧ W (7 + 4 * t + 3) = (Int32.ofNat (v t))) (T : toldL hC hR B n) (hr : r < 1000) (d : Nat) : am_cl (d + 2) qU_fitsRows [.ref 3, .ref 1, .int (Int32.ofNat r)] hC = some (.inl (some (bi (allN (frN v B r) n = true))), hC) := by
  obtain ⟨hn, e1, -, hB, hq⟩ := T
  have l : ∀ k i, i + k = n → allN (frN v B r) i = true → am_go (am_cl (d + 1)) qU_fitsRows 1 [.ref 3, .ref 1, .int (Int32.ofNat r), .int (Int32.ofNat i)] [] hC = some (.inl (some (bi (allN (frN v B r) n = true))), hC) := by
    intro k
    induction k with
    | zero =>
      intro i hi h1
      have hi : i = n := by omega
      subst hi
      rw [bi_t h1, ggU_fitsRows_1]
      simp -implicitDefEqProofs (disch := (first | omega | assumption | exact am_isS_3 | exact am_isS_25 | exact am_isX_356 | exact am_isX_359)) only [ggU_fitsRows_0, ggU_fitsRows_2, ggU_fitsRows_3, ggU_fitsRows_4, ggU_fitsRows_5, ccU_fitsRows_2_3, ccU_fitsRows_2_2, ccU_fitsRows_2_1, e1, am_kI_x, am_kV_x, am_kI_i, am_nI_i, am_kV_i, am_nV_i, ↓reduceIte, eq_self, if_true, if_false, c_in, c_tn, pn_add, pn_mul, pn_subc, pn_addm, c_le_t, c_le_f, c_lt_t, c_lt_f, c_eq_f, c_eqm, bi_z, bi_1, bi_b, bi_T, bi_F, ite_not, up_eq, up_ne, or_self, or_true, true_or, or_false, false_or, and_true, true_and, and_self, not_true_eq_false, not_false_eq_true, Bool.false_eq_true]
    | succ k ih =>
      intro i hi h1
      obtain ⟨-, b2, -⟩ := hB (2 * i) (by omega)
      obtain ⟨b3, b4, -⟩ := hB (2 * i + 1) (by omega)
      have c1 := hq i (by omega)
      have ef := fun d => xU_fateBy R hv hr (t := B (2 * i)) (by omega) d
      have lf := fbN_lt (hv (B (2 * i)) (by omega)).1 hr
      by_cases hz : fbN v r (B (2 * i)) = B (2 * i + 1)
      · have ih := ih (i + 1) (by omega) (by rw [allN_S, h1]; exact decide_eq_true hz)
        rw [ggU_fitsRows_1]
        simp -implicitDefEqProofs (disch := (first | omega | assumption | exact am_isS_3 | exact am_isS_25 | exact am_isX_356 | exact am_isX_359)) only [ggU_fitsRows_0, ggU_fitsRows_2, ggU_fitsRows_3, ggU_fitsRows_4, ggU_fitsRows_5, ccU_fitsRows_2_3, ccU_fitsRows_2_2, ccU_fitsRows_2_1, e1, xT_left, xT_right, b2, b4, ef, hz, am_kI_x, am_kV_x, am_kI_i, am_nI_i, am_kV_i, am_nV_i, ↓reduceIte, eq_self, if_true, if_false, c_in, c_tn, pn_add, pn_mul, pn_subc, pn_addm, c_le_t, c_le_f, c_lt_t, c_lt_f, c_eq_f, c_eqm, bi_z, bi_1, bi_b, bi_T, bi_F, ite_not, up_eq, up_ne, or_self, or_true, true_or, or_false, false_or, and_true, true_and, and_self, not_true_eq_false, not_false_eq_true, Bool.false_eq_true]
        exact ih
      · rw [bi_f (by rw [allN_f (i := i) (by omega) (decide_eq_false hz)]; decide), ggU_fitsRows_1]
        simp -implicitDefEqProofs (disch := (first | omega | assumption | exact am_isS_3 | exact am_isS_25 | exact am_isX_356 | exact am_isX_359)) only [ggU_fitsRows_0, ggU_fitsRows_2, ggU_fitsRows_3, ggU_fitsRows_4, ggU_fitsRows_5, ccU_fitsRows_2_3, ccU_fitsRows_2_2, ccU_fitsRows_2_1, e1, xT_left, xT_right, b2, b4, ef, am_kI_x, am_kV_x, am_kI_i, am_nI_i, am_kV_i, am_nV_i, ↓reduceIte, eq_self, if_true, if_false, c_in, c_tn, pn_add, pn_mul, pn_subc, pn_addm, c_le_t, c_le_f, c_lt_t, c_lt_f, c_eq_f, c_eqm, bi_z, bi_1, bi_b, bi_T, bi_F, ite_not, up_eq, up_ne, or_self, or_true, true_or, or_false, false_or, and_true, true_and, and_self, not_true_eq_false, not_false_eq_true, Bool.false_eq_true]
  rw [uU_fitsRows, ggU_fitsRows_0]
  exact l n 0 (by omega) rfl
theorem rR_fits {hC hR : am_H} {n r : Nat} {B v : Nat → Nat} (hv : ∀ t, t < 9 → v t ≤ 99 ∧ hR.2 374 (7 + 4 * t + 3) = (Int32.ofNat (v t))) (T : toldL hC hR B n) (hr : r < 1000) (d : Nat) : am_cl (d + 4) qR_fits [.ref 373, .int (Int32.ofNat r)] hR = some (.inl (some (bi (allN (frN v B r) n = true))), hR) := by
  obtain ⟨hn, -, e1, hB, hq⟩ := T
  have l : ∀ k i, i + k = n → am_go (am_cl (d + 3)) qR_fits 1 [.ref 373, .int (Int32.ofNat r), .int (bi (allN (frN v B r) i = true)), .int (Int32.ofNat (2 * i))] [] hR = some (.inl (some (bi (allN (frN v B r) n = true))), hR) := by
    intro k
    induction k with
    | zero =>
      intro i hi
      have hi : i = n := by omega
      subst hi
      rw [ggR_fits_1]
      simp -implicitDefEqProofs (disch := (first | omega | assumption | exact am_isS_3 | exact am_isS_25 | exact am_isX_356 | exact am_isX_359)) only [ggR_fits_0, ggR_fits_2, ggR_fits_3, ggR_fits_4, ggR_fits_5, ggR_fits_6, ggR_fits_7, ccR_fits_3_1, e1, em_or, am_kI_x, am_kV_x, am_kI_i, am_nI_i, am_kV_i, am_nV_i, ↓reduceIte, eq_self, if_true, if_false, c_in, c_tn, pn_add, pn_mul, pn_subc, pn_addm, c_le_t, c_le_f, c_lt_t, c_lt_f, c_eq_f, c_eqm, bi_z, bi_1, bi_b, bi_T, bi_F, ite_not, up_eq, up_ne, or_self, or_true, true_or, or_false, false_or, and_true, true_and, and_self, not_true_eq_false, not_false_eq_true, Bool.false_eq_true]
    | succ k ih =>
      intro i hi
      obtain ⟨-, -, b2⟩ := hB (2 * i) (by omega)
      obtain ⟨b3, -, b4⟩ := hB (2 * i + 1) (by omega)
      have c1 := hq i (by omega)
      have s1 : ((Int32.ofNat (B (2 * i))) : Int32).toInt8.toInt32 = (Int32.ofNat (B (2 * i))) := by
        rcases sbt_at (b := B (2 * i)) (by omega) with q | q
        · exact q.2
        · omega
      have s2 := sb_255 b3
      have ef := fun d => rR_fateBy hv hr (t := B (2 * i)) (by omega) d
      have lf := fbN_lt (hv (B (2 * i)) (by omega)).1 hr
      have ih := ih (i + 1) (by omega)
      rw [show 2 * (i + 1) = 2 * i + 2 by omega, allN_S] at ih
      rw [← ih, ggR_fits_1]
      by_cases h1 : allN (frN v B r) i = true
      · by_cases hz : fbN v r (B (2 * i)) = B (2 * i + 1)
        · have hp : frN v B r i = true := decide_eq_true hz
          rw [bi_t h1, bi_t (by rw [h1, hp]; rfl)]
          simp -implicitDefEqProofs (disch := (first | omega | assumption | exact am_isS_3 | exact am_isS_25 | exact am_isX_356 | exact am_isX_359)) only [ggR_fits_0, ggR_fits_2, ggR_fits_3, ggR_fits_4, ggR_fits_5, ggR_fits_6, ggR_fits_7, ccR_fits_3_1, e1, b2, b4, s1, s2, ef, hz, am_kI_x, am_kV_x, am_kI_i, am_nI_i, am_kV_i, am_nV_i, ↓reduceIte, eq_self, if_true, if_false, c_in, c_tn, pn_add, pn_mul, pn_subc, pn_addm, c_le_t, c_le_f, c_lt_t, c_lt_f, c_eq_f, c_eqm, bi_z, bi_1, bi_b, bi_T, bi_F, ite_not, up_eq, up_ne, or_self, or_true, true_or, or_false, false_or, and_true, true_and, and_self, not_true_eq_false, not_false_eq_true, Bool.false_eq_true]
        · have hp : frN v B r i = false := decide_eq_false hz
          rw [bi_t h1, bi_f (by rw [hp, Bool.and_false]; decide)]
          simp -implicitDefEqProofs (disch := (first | omega | assumption | exact am_isS_3 | exact am_isS_25 | exact am_isX_356 | exact am_isX_359)) only [ggR_fits_0, ggR_fits_2, ggR_fits_3, ggR_fits_4, ggR_fits_5, ggR_fits_6, ggR_fits_7, ccR_fits_3_1, e1, b2, b4, s1, s2, ef, am_kI_x, am_kV_x, am_kI_i, am_nI_i, am_kV_i, am_nV_i, ↓reduceIte, eq_self, if_true, if_false, c_in, c_tn, pn_add, pn_mul, pn_subc, pn_addm, c_le_t, c_le_f, c_lt_t, c_lt_f, c_eq_f, c_eqm, bi_z, bi_1, bi_b, bi_T, bi_F, ite_not, up_eq, up_ne, or_self, or_true, true_or, or_false, false_or, and_true, true_and, and_self, not_true_eq_false, not_false_eq_true, Bool.false_eq_true]
      · rw [bi_f h1, bi_f (by rw [Bool.eq_false_iff.mpr h1, Bool.false_and]; decide)]
        simp -implicitDefEqProofs (disch := (first | omega | assumption | exact am_isS_3 | exact am_isS_25 | exact am_isX_356 | exact am_isX_359)) only [ggR_fits_0, ggR_fits_2, ggR_fits_3, ggR_fits_4, ggR_fits_5, ggR_fits_6, ggR_fits_7, ccR_fits_3_1, e1, am_kI_x, am_kV_x, am_kI_i, am_nI_i, am_kV_i, am_nV_i, ↓reduceIte, eq_self, if_true, if_false, c_in, c_tn, pn_add, pn_mul, pn_subc, pn_addm, c_le_t, c_le_f, c_lt_t, c_lt_f, c_eq_f, c_eqm, bi_z, bi_1, bi_b, bi_T, bi_F, ite_not, up_eq, up_ne, or_self, or_true, true_or, or_false, false_or, and_true, true_and, and_self, not_true_eq_false, not_false_eq_true, Bool.false_eq_true]
  rw [uR_fits, ggR_fits_0]
  exact l n 0 (by omega)
theorem cnt_S {p : Nat → Bool} {n : Nat} : cnt p (n + 1) = cnt p n + (if p n = true then 1 else 0) := rfl
theorem xU_fitTo_l {hR : am_H} {W : Nat → Int32} {N G n : Nat} {B v : Nat → Nat} (hv : ∀ t, t < 9 → v t ≤ 99 ∧ W (7 + 4 * t + 3) = (Int32.ofNat (v t))) (d : Nat) : ∀ (k r : Nat) (h : am_H), r + k = 1000 → RelS h 3 W N G → toldL h hR B n → h.2 370 2 = (Int32.ofNat (cnt (fun r => allN (frN v B r) n) r)) → (∀ j, j < r → h.2 371 j = bi (allN (frN v B j) n = true)) → ∃ h', am_go (am_cl (d + 2)) qU_fitTo 1 [.ref 370, .ref 3, .ref 1, .int (Int32.ofNat r)] [] h = some (.inl none, h') ∧ h'.1 = h.1 ∧ h'.2 370 2 = (Int32.ofNat (cnt (fun r => allN (frN v B r) n) 1000)) ∧ (∀ j, j < 1000 → h'.2 371 j = bi (allN (frN v B j) n = true)) ∧ ∀ p i, p ≠ 371 → (p ≠ 370 ∨ i ≠ 2) → h'.2 p i = h.2 p i := by
  intro k
  induction k with
  | zero =>
    intro r h hr R T e1 e2
    have hr : r = 1000 := by omega
    subst hr
    refine ⟨h, ?_, rfl, e1, e2, fun _ _ _ _ => rfl⟩
    rw [ggU_fitTo_1]
    simp -implicitDefEqProofs (disch := (first | omega | assumption | exact am_isS_3 | exact am_isS_25 | exact am_isX_356 | exact am_isX_359)) only [ggU_fitTo_0, ggU_fitTo_2, ggU_fitTo_3, ggU_fitTo_4, ggU_fitTo_5, ccU_fitTo_2_1, am_kI_x, am_kV_x, am_kI_i, am_nI_i, am_kV_i, am_nV_i, ↓reduceIte, eq_self, if_true, if_false, c_in, c_tn, pn_add, pn_mul, pn_subc, pn_addm, c_le_t, c_le_f, c_lt_t, c_lt_f, c_eq_f, c_eqm, bi_z, bi_1, bi_b, bi_T, bi_F, ite_not, up_eq, up_ne, or_self, or_true, true_or, or_false, false_or, and_true, true_and, and_self, not_true_eq_false, not_false_eq_true, Bool.false_eq_true]
  | succ k ih =>
    intro r h hr R T e1 e2
    have ef := fun d => xU_fitsRows R hv T (r := r) (by omega) d
    have hc := cnt_le (p := fun r => allN (frN v B r) n) r
    by_cases hq : allN (frN v B r) n = true
    · rw [bi_t hq] at ef
      obtain ⟨h', a, b, c, e, f⟩ := ih (r + 1) (am_up (am_up h 371 r (Int32.ofNat 1)) 370 2 (Int32.ofNat (cnt (fun r => allN (frN v B r) n) r + 1))) (by omega) (R.frame (fun p h1 h2 => by rw [up_o (by omega), up_o (by omega)])) (T.of (by rw [up_ne (by omega), up_ne (by omega)]) (by rw [up_o (by omega), up_o (by omega)]) rfl rfl) (by rw [up_eq rfl rfl, cnt_S, if_pos hq]) (fun j hj => by
        rw [up_ne (by omega)]
        by_cases hz : j = r
        · rw [hz, up_eq rfl rfl, bi_t hq]
        · rw [up_ne (by omega)]; exact e2 j (by omega))
      refine ⟨h', ?_, b, c, e, fun p i h1 h2 => by rw [f p i h1 h2, up_ne (by omega), up_ne (by omega)]⟩
      rw [ggU_fitTo_1]
      simp -implicitDefEqProofs (disch := (first | omega | assumption | exact am_isS_3 | exact am_isS_25 | exact am_isX_356 | exact am_isX_359)) only [ggU_fitTo_0, ggU_fitTo_2, ggU_fitTo_3, ggU_fitTo_4, ggU_fitTo_5, ccU_fitTo_2_1, ef, e1, or_true, am_kI_x, am_kV_x, am_kI_i, am_nI_i, am_kV_i, am_nV_i, ↓reduceIte, eq_self, if_true, if_false, c_in, c_tn, pn_add, pn_mul, pn_subc, pn_addm, c_le_t, c_le_f, c_lt_t, c_lt_f, c_eq_f, c_eqm, bi_z, bi_1, bi_b, bi_T, bi_F, ite_not, up_eq, up_ne, or_self, or_true, true_or, or_false, false_or, and_true, true_and, and_self, not_true_eq_false, not_false_eq_true, Bool.false_eq_true]
      exact a
    · rw [bi_f hq] at ef
      obtain ⟨h', a, b, c, e, f⟩ := ih (r + 1) (am_up h 371 r (Int32.ofNat 0)) (by omega) (R.frame (fun p h1 h2 => by rw [up_o (by omega)])) (T.of (by rw [up_ne (by omega)]) (by rw [up_o (by omega)]) rfl rfl) (by rw [up_ne (by omega), cnt_S, if_neg hq]; exact e1) (fun j hj => by
        by_cases hz : j = r
        · rw [hz, up_eq rfl rfl, bi_f hq]
        · rw [up_ne (by omega)]; exact e2 j (by omega))
      refine ⟨h', ?_, b, c, e, fun p i h1 h2 => by rw [f p i h1 h2, up_ne (by omega)]⟩
      rw [ggU_fitTo_1]
      simp -implicitDefEqProofs (disch := (first | omega | assumption | exact am_isS_3 | exact am_isS_25 | exact am_isX_356 | exact am_isX_359)) only [ggU_fitTo_0, ggU_fitTo_2, ggU_fitTo_3, ggU_fitTo_4, ggU_fitTo_5, ccU_fitTo_2_1, ef, e1, true_or, am_kI_x, am_kV_x, am_kI_i, am_nI_i, am_kV_i, am_nV_i, ↓reduceIte, eq_self, if_true, if_false, c_in, c_tn, pn_add, pn_mul, pn_subc, pn_addm, c_le_t, c_le_f, c_lt_t, c_lt_f, c_eq_f, c_eqm, bi_z, bi_1, bi_b, bi_T, bi_F, ite_not, up_eq, up_ne, or_self, or_true, true_or, or_false, false_or, and_true, true_and, and_self, not_true_eq_false, not_false_eq_true, Bool.false_eq_true]
      exact a
theorem xU_fitTo {h hR : am_H} {W : Nat → Int32} {N G n : Nat} {B v : Nat → Nat} (hv : ∀ t, t < 9 → v t ≤ 99 ∧ W (7 + 4 * t + 3) = (Int32.ofNat (v t))) (R : RelS h 3 W N G) (T : toldL h hR B n) (d : Nat) : ∃ h', am_cl (d + 3) qU_fitTo [.ref 370, .ref 3, .ref 1] h = some (.inl none, h') ∧ h'.1 = h.1 ∧ h'.2 370 2 = (Int32.ofNat (cnt (fun r => allN (frN v B r) n) 1000)) ∧ (∀ j, j < 1000 → h'.2 371 j = bi (allN (frN v B j) n = true)) ∧ ∀ p, p ≠ 371 → p ≠ 370 → h'.2 p = h.2 p := by
  obtain ⟨h', a, b, c, e, f⟩ := xU_fitTo_l hv d 1000 0 (am_up h 370 2 (Int32.ofNat 0)) (by omega) (R.frame (fun p h1 h2 => by rw [up_o (by omega)])) (T.of (by rw [up_ne (by omega)]) (by rw [up_o (by omega)]) rfl rfl) (up_eq rfl rfl) (fun j hj => by omega)
  refine ⟨h', ?_, b, c, e, fun p h1 h2 => by funext i; rw [f p i h1 (Or.inl h2), up_ne (by omega)]⟩
  rw [uU_fitTo, ggU_fitTo_0]
  exact a
/-- the first -/
def fstN (q : Nat → Bool) : Nat → Nat → Int32
  | 0, _ => -1
  | k + 1, r => if q r = true then (Int32.ofNat r) else fstN q k (r + 1)
theorem xU_leastPair {h : am_H} {q : Nat → Bool} (e : ∀ j, j < 1000 → h.2 371 j = bi (q j = true)) (d : Nat) : am_cl (d + 1) qU_leastPair [.ref 370] h = some (.inl (some (fstN q 1000 0)), h) := by
  have l : ∀ k r, r + k = 1000 → am_go (am_cl d) qU_leastPair 1 [.ref 370, .int (Int32.ofNat r)] [] h = some (.inl (some (fstN q k r)), h) := by
    intro k
    induction k with
    | zero =>
      intro r hr
      rw [ggU_leastPair_1]
      simp -implicitDefEqProofs (disch := (first | omega | assumption | exact am_isS_3 | exact am_isS_25 | exact am_isX_356 | exact am_isX_359)) only [ggU_leastPair_0, ggU_leastPair_2, ggU_leastPair_3, ggU_leastPair_4, ggU_leastPair_5, fstN, am_kI_x, am_kV_x, am_kI_i, am_nI_i, am_kV_i, am_nV_i, ↓reduceIte, eq_self, if_true, if_false, c_in, c_tn, pn_add, pn_mul, pn_subc, pn_addm, c_le_t, c_le_f, c_lt_t, c_lt_f, c_eq_f, c_eqm, bi_z, bi_1, bi_b, bi_T, bi_F, ite_not, up_eq, up_ne, or_self, or_true, true_or, or_false, false_or, and_true, true_and, and_self, not_true_eq_false, not_false_eq_true, Bool.false_eq_true]
    | succ k ih =>
      intro r hr
      have er := e r (by omega)
      have ih := ih (r + 1) (by omega)
      rw [ggU_leastPair_1]
      by_cases hq : q r = true
      · rw [bi_t hq] at er
        simp -implicitDefEqProofs (disch := (first | omega | assumption | exact am_isS_3 | exact am_isS_25 | exact am_isX_356 | exact am_isX_359)) only [ggU_leastPair_0, ggU_leastPair_2, ggU_leastPair_3, ggU_leastPair_4, ggU_leastPair_5, er, fstN, hq, am_kI_x, am_kV_x, am_kI_i, am_nI_i, am_kV_i, am_nV_i, ↓reduceIte, eq_self, if_true, if_false, c_in, c_tn, pn_add, pn_mul, pn_subc, pn_addm, c_le_t, c_le_f, c_lt_t, c_lt_f, c_eq_f, c_eqm, bi_z, bi_1, bi_b, bi_T, bi_F, ite_not, up_eq, up_ne, or_self, or_true, true_or, or_false, false_or, and_true, true_and, and_self, not_true_eq_false, not_false_eq_true, Bool.false_eq_true]
      · rw [bi_f hq] at er
        simp -implicitDefEqProofs (disch := (first | omega | assumption | exact am_isS_3 | exact am_isS_25 | exact am_isX_356 | exact am_isX_359)) only [ggU_leastPair_0, ggU_leastPair_2, ggU_leastPair_3, ggU_leastPair_4, ggU_leastPair_5, er, fstN, hq, am_kI_x, am_kV_x, am_kI_i, am_nI_i, am_kV_i, am_nV_i, ↓reduceIte, eq_self, if_true, if_false, c_in, c_tn, pn_add, pn_mul, pn_subc, pn_addm, c_le_t, c_le_f, c_lt_t, c_lt_f, c_eq_f, c_eqm, bi_z, bi_1, bi_b, bi_T, bi_F, ite_not, up_eq, up_ne, or_self, or_true, true_or, or_false, false_or, and_true, true_and, and_self, not_true_eq_false, not_false_eq_true, Bool.false_eq_true]
        exact ih
  rw [uU_leastPair, ggU_leastPair_0]
  exact l 1000 0 (by omega)
theorem fstN_S {q : Nat → Bool} {k r : Nat} : fstN q (k + 1) r = if q r = true then (Int32.ofNat r) else fstN q k (r + 1) := rfl
theorem rR_rules_l {hC h : am_H} {n : Nat} {B v : Nat → Nat} (hv : ∀ t, t < 9 → v t ≤ 99 ∧ h.2 374 (7 + 4 * t + 3) = (Int32.ofNat (v t))) (T : toldL hC h B n) (y : Int32) (d : Nat) : ∀ (m c : Nat), m ≤ 1000 → c + cnt (fun r => allN (frN v B r) n) m = cnt (fun r => allN (frN v B r) n) 1000 → am_go (am_cl (d + 4)) qR_rules 6 [.ref 373, .int y, .int (Int32.ofNat c), .int (fstN (fun r => allN (frN v B r) n) (1000 - m) m), .int (if m = 0 then -1 else (Int32.ofNat (m - 1)))] [] h = some (.inl (some (if y = (Int32.ofNat 0) then (Int32.ofNat (cnt (fun r => allN (frN v B r) n) 1000)) else fstN (fun r => allN (frN v B r) n) 1000 0)), h) := by
  intro m
  induction m with
  | zero =>
    intro c _ hc
    have hc : c = cnt (fun r => allN (frN v B r) n) 1000 := hc
    subst hc
    rw [if_pos rfl, ggR_rules_6]
    by_cases hy : y = (Int32.ofNat 0)
    · simp -implicitDefEqProofs (disch := (first | omega | assumption | exact am_isS_3 | exact am_isS_25 | exact am_isX_356 | exact am_isX_359)) only [ggR_rules_0, ggR_rules_1, ggR_rules_2, ggR_rules_3, ggR_rules_4, ggR_rules_5, ggR_rules_7, ggR_rules_8, ggR_rules_9, ggR_rules_10, ggR_rules_11, ggR_rules_12, ggR_rules_13, ggR_rules_14, ccR_rules_0_2, ccR_rules_0_1, ccR_rules_3_1, ccR_rules_7_1, m1_neg, hy, Nat.sub_zero, am_kI_x, am_kV_x, am_kI_i, am_nI_i, am_kV_i, am_nV_i, ↓reduceIte, eq_self, if_true, if_false, c_in, c_tn, pn_add, pn_mul, pn_subc, pn_addm, c_le_t, c_le_f, c_lt_t, c_lt_f, c_eq_f, c_eqm, bi_z, bi_1, bi_b, bi_T, bi_F, ite_not, up_eq, up_ne, or_self, or_true, true_or, or_false, false_or, and_true, true_and, and_self, not_true_eq_false, not_false_eq_true, Bool.false_eq_true]
    · simp -implicitDefEqProofs (disch := (first | omega | assumption | exact am_isS_3 | exact am_isS_25 | exact am_isX_356 | exact am_isX_359)) only [ggR_rules_0, ggR_rules_1, ggR_rules_2, ggR_rules_3, ggR_rules_4, ggR_rules_5, ggR_rules_7, ggR_rules_8, ggR_rules_9, ggR_rules_10, ggR_rules_11, ggR_rules_12, ggR_rules_13, ggR_rules_14, ccR_rules_0_2, ccR_rules_0_1, ccR_rules_3_1, ccR_rules_7_1, m1_neg, hy, Nat.sub_zero, am_kI_x, am_kV_x, am_kI_i, am_nI_i, am_kV_i, am_nV_i, ↓reduceIte, eq_self, if_true, if_false, c_in, c_tn, pn_add, pn_mul, pn_subc, pn_addm, c_le_t, c_le_f, c_lt_t, c_lt_f, c_eq_f, c_eqm, bi_z, bi_1, bi_b, bi_T, bi_F, ite_not, up_eq, up_ne, or_self, or_true, true_or, or_false, false_or, and_true, true_and, and_self, not_true_eq_false, not_false_eq_true, Bool.false_eq_true]
  | succ m ih =>
    intro c hm hc
    have ef := fun d => rR_fits hv T (r := m) (by omega) d
    have hcl := cnt_le (p := fun r => allN (frN v B r) n) 1000
    rw [cnt_S] at hc
    have hi : (if m = 0 then (-1 : Int32) else (Int32.ofNat (m - 1))) = (Int32.ofNat m) + -1 := by
      by_cases h0 : m = 0
      · rw [if_pos h0, h0, z_m1]
      · rw [if_neg h0, pn_addm (by omega)]
    rw [hi] at ih
    rw [if_neg (by omega), Nat.add_sub_cancel, ggR_rules_6]
    have e1 : 1000 - m = 1000 - (m + 1) + 1 := by omega
    rw [e1] at ih
    by_cases hq : allN (frN v B m) n = true
    · rw [if_pos hq] at hc
      have ih := ih (c + 1) (by omega) (by omega)
      rw [fstN_S (k := 1000 - (m + 1)) (r := m)] at ih
      rw [if_pos hq] at ih
      rw [bi_t hq] at ef
      rw [← ih]
      simp -implicitDefEqProofs (disch := (first | omega | assumption | exact am_isS_3 | exact am_isS_25 | exact am_isX_356 | exact am_isX_359)) only [ggR_rules_0, ggR_rules_1, ggR_rules_2, ggR_rules_3, ggR_rules_4, ggR_rules_5, ggR_rules_7, ggR_rules_8, ggR_rules_9, ggR_rules_10, ggR_rules_11, ggR_rules_12, ggR_rules_13, ggR_rules_14, ccR_rules_0_2, ccR_rules_0_1, ccR_rules_3_1, ccR_rules_7_1, ef, am_kI_x, am_kV_x, am_kI_i, am_nI_i, am_kV_i, am_nV_i, ↓reduceIte, eq_self, if_true, if_false, c_in, c_tn, pn_add, pn_mul, pn_subc, pn_addm, c_le_t, c_le_f, c_lt_t, c_lt_f, c_eq_f, c_eqm, bi_z, bi_1, bi_b, bi_T, bi_F, ite_not, up_eq, up_ne, or_self, or_true, true_or, or_false, false_or, and_true, true_and, and_self, not_true_eq_false, not_false_eq_true, Bool.false_eq_true]
    · rw [if_neg hq] at hc
      have ih := ih c (by omega) (by omega)
      rw [fstN_S (k := 1000 - (m + 1)) (r := m)] at ih
      rw [if_neg hq] at ih
      rw [bi_f hq] at ef
      rw [← ih]
      simp -implicitDefEqProofs (disch := (first | omega | assumption | exact am_isS_3 | exact am_isS_25 | exact am_isX_356 | exact am_isX_359)) only [ggR_rules_0, ggR_rules_1, ggR_rules_2, ggR_rules_3, ggR_rules_4, ggR_rules_5, ggR_rules_7, ggR_rules_8, ggR_rules_9, ggR_rules_10, ggR_rules_11, ggR_rules_12, ggR_rules_13, ggR_rules_14, ccR_rules_0_2, ccR_rules_0_1, ccR_rules_3_1, ccR_rules_7_1, ef, am_kI_x, am_kV_x, am_kI_i, am_nI_i, am_kV_i, am_nV_i, ↓reduceIte, eq_self, if_true, if_false, c_in, c_tn, pn_add, pn_mul, pn_subc, pn_addm, c_le_t, c_le_f, c_lt_t, c_lt_f, c_eq_f, c_eqm, bi_z, bi_1, bi_b, bi_T, bi_F, ite_not, up_eq, up_ne, or_self, or_true, true_or, or_false, false_or, and_true, true_and, and_self, not_true_eq_false, not_false_eq_true, Bool.false_eq_true]
/-! rules, tell -/
theorem xF_needLives {h : am_H} {n : Nat} (hn : n ≤ 400) (e : h.2 1 1 = (Int32.ofNat n)) {B : Nat → Nat} (hB : ∀ i, i < 400 → B i < 256 ∧ h.2 2 i = (Int32.ofNat (B i))) (ok : rowsOK B n 7 255 = true) (d : Nat) : am_cl (d + 3) qF_needLives [.ref 0] h = some (.inl none, usedC h (n / 2)) := by
  have et := fun d => xT_takeRows hn e hB (x := 7) (y := 255) (by omega) (by omega) d
  rw [bi_t ok, if_pos ok] at et
  unfold usedC
  simp -implicitDefEqProofs (disch := (first | omega | assumption | exact am_isS_3 | exact am_isS_25 | exact am_isX_356 | exact am_isX_359)) only [uF_needLives, ggF_needLives_0, ggF_needLives_1, ggF_needLives_2, ccF_needLives_0_1, et, am_kI_x, am_kV_x, am_kI_i, am_nI_i, am_kV_i, am_nV_i, ↓reduceIte, eq_self, if_true, if_false, c_in, c_tn, pn_add, pn_mul, pn_subc, pn_addm, c_le_t, c_le_f, c_lt_t, c_lt_f, c_eq_f, c_eqm, bi_z, bi_1, bi_b, bi_T, bi_F, ite_not, up_eq, up_ne, or_self, or_true, true_or, or_false, false_or, and_true, true_and, and_self, not_true_eq_false, not_false_eq_true, Bool.false_eq_true]
theorem xF_needLives_x {h : am_H} {n : Nat} (hn : n ≤ 400) (e : h.2 1 1 = (Int32.ofNat n)) {B : Nat → Nat} (hB : ∀ i, i < 400 → B i < 256 ∧ h.2 2 i = (Int32.ofNat (B i))) (ok : ¬ rowsOK B n 7 255 = true) (d : Nat) : am_cl (d + 3) qF_needLives [.ref 0] h = some (.inr 1, am_th (usedC h 0)) := by
  have et := fun d => xT_takeRows hn e hB (x := 7) (y := 255) (by omega) (by omega) d
  rw [bi_f ok, if_neg ok] at et
  unfold usedC
  simp -implicitDefEqProofs (disch := (first | omega | assumption | exact am_isS_3 | exact am_isS_25 | exact am_isX_356 | exact am_isX_359)) only [uF_needLives, ggF_needLives_0, ggF_needLives_1, ggF_needLives_2, ccF_needLives_0_1, et, am_kI_x, am_kV_x, am_kI_i, am_nI_i, am_kV_i, am_nV_i, ↓reduceIte, eq_self, if_true, if_false, c_in, c_tn, pn_add, pn_mul, pn_subc, pn_addm, c_le_t, c_le_f, c_lt_t, c_lt_f, c_eq_f, c_eqm, bi_z, bi_1, bi_b, bi_T, bi_F, ite_not, up_eq, up_ne, or_self, or_true, true_or, or_false, false_or, and_true, true_and, and_self, not_true_eq_false, not_false_eq_true, Bool.false_eq_true]
theorem toldL_of {hC hR : am_H} {n : Nat} {B : Nat → Nat} (hB : bts hC hR B) (ok : rowsOK B n 7 255 = true) : toldL (usedC hC (n / 2)) (usedR hR n) B (n / 2) := by
  unfold rowsOK at ok
  rw [Bool.and_eq_true, decide_eq_true_eq, allN_iff] at ok
  obtain ⟨⟨o1, o2⟩, o3⟩ := ok
  refine ⟨by omega, usedC_2, by rw [usedR_11, show 2 * (n / 2) = n by omega], fun i hi => ?_, fun i hi => ?_⟩
  · rw [usedC_o (by omega), usedR_o (by omega)]; exact hB i hi
  · have := o3 i hi
    rw [Bool.and_eq_true, decide_eq_true_eq, decide_eq_true_eq] at this
    exact this.1
theorem J2.hi {hC hR hC' hR' : am_H} (J : J2 hC hR) (f : ∀ p, p < 365 → hC'.2 p = hC.2 p) (g : ∀ p, p < 380 → hR'.2 p = hR.2 p) : J2 hC' hR' := J.of (fun p h1 _ _ _ _ _ _ => f p (by omega)) (by rw [f 1 (by omega)]) (by rw [f 362 (by omega)]) (f 363 (by omega)) (f 343 (by omega)) (fun j _ => by rw [g 374 (by omega)]) (g 375 (by omega)) (g 378 (by omega)) (g 379 (by omega)) (fun i _ => by rw [g 373 (by omega)])
theorem T_rules (y : Int32) (hy : y = (Int32.ofNat 0) ∨ y = (Int32.ofNat 1)) : Two qF_rules [.ref 0, .int y] qR_rules [.ref 373, .int y] (am_ctt 25) := by
  intro d hC hR J
  obtain ⟨⟨N, G, R, okt, okc, okk, RL⟩, T, -⟩ := id J
  obtain ⟨n, B, hn, e1, e2, hB⟩ := bts_of T
  have hBC : ∀ i, i < 400 → B i < 256 ∧ hC.2 2 i = (Int32.ofNat (B i)) := fun i hi => ⟨(hB i hi).1, (hB i hi).2.1⟩
  have e374 : (usedR hR n).2 374 = hR.2 374 := usedR_o (by omega)
  have ef := fun d => rR_isLed (h := usedR hR n) hn usedR_11 (B := B) (fun i hi => ⟨(hB i hi).1, by rw [usedR_o (by omega)]; exact (hB i hi).2.2⟩) d
  have eu := fun d => rR_uses e2 d
  by_cases ok : rowsOK B n 7 255 = true
  · rw [bi_t ok] at ef
    have en := fun d => xF_needLives hn e1 hBC ok d
    have tt := toldL_of hB ok
    have RC := R.used (m := n / 2)
    obtain ⟨v, hv⟩ := wo_nat okt
    have hvR : ∀ t, t < 9 → v t ≤ 99 ∧ (usedR hR n).2 374 (7 + 4 * t + 3) = (Int32.ofNat (v t)) := by rw [e374]; exact hv
    obtain ⟨h', fa, fb, fc, fe, ff⟩ := xU_fitTo hv RC tt (d + 116)
    have lp := fun d => xU_leastPair fe d
    have rl := rR_rules_l hvR tt y (d + 115) 1000 0 (by omega) (by omega)
    rw [if_neg (by omega), Nat.sub_self] at rl
    refine ⟨h', usedR hR n, (J.used (n / 2) n).hi (fun p hp => ff p (by omega) (by omega)) (fun _ _ => rfl), rfl, Or.inl ⟨if y = (Int32.ofNat 0) then (Int32.ofNat (cnt (fun r => allN (frN v B r) (n / 2)) 1000)) else fstN (fun r => allN (frN v B r) (n / 2)) 1000 0, fb, usedR_0, ?_, ?_⟩⟩
    · rcases hy with rfl | rfl
      · simp -implicitDefEqProofs (disch := (first | omega | assumption | exact am_isS_3 | exact am_isS_25 | exact am_isX_356 | exact am_isX_359)) only [uF_rules, ggF_rules_0, ggF_rules_1, ggF_rules_2, ggF_rules_3, ccF_rules_0_2, ccF_rules_0_1, ccF_rules_1_1, en, fa, fc, am_kI_x, am_kV_x, am_kI_i, am_nI_i, am_kV_i, am_nV_i, ↓reduceIte, eq_self, if_true, if_false, c_in, c_tn, pn_add, pn_mul, pn_subc, pn_addm, c_le_t, c_le_f, c_lt_t, c_lt_f, c_eq_f, c_eqm, bi_z, bi_1, bi_b, bi_T, bi_F, ite_not, up_eq, up_ne, or_self, or_true, true_or, or_false, false_or, and_true, true_and, and_self, not_true_eq_false, not_false_eq_true, Bool.false_eq_true]
      · simp -implicitDefEqProofs (disch := (first | omega | assumption | exact am_isS_3 | exact am_isS_25 | exact am_isX_356 | exact am_isX_359)) only [uF_rules, ggF_rules_0, ggF_rules_1, ggF_rules_2, ggF_rules_3, ccF_rules_0_2, ccF_rules_0_1, ccF_rules_1_1, en, fa, lp, am_kI_x, am_kV_x, am_kI_i, am_nI_i, am_kV_i, am_nV_i, ↓reduceIte, eq_self, if_true, if_false, c_in, c_tn, pn_add, pn_mul, pn_subc, pn_addm, c_le_t, c_le_f, c_lt_t, c_lt_f, c_eq_f, c_eqm, bi_z, bi_1, bi_b, bi_T, bi_F, ite_not, up_eq, up_ne, or_self, or_true, true_or, or_false, false_or, and_true, true_and, and_self, not_true_eq_false, not_false_eq_true, Bool.false_eq_true]
    · simp -implicitDefEqProofs (disch := (first | omega | assumption | exact am_isS_3 | exact am_isS_25 | exact am_isX_356 | exact am_isX_359)) only [uR_rules, ggR_rules_0, ggR_rules_1, ggR_rules_2, ggR_rules_3, ggR_rules_4, ggR_rules_5, ggR_rules_7, ggR_rules_8, ggR_rules_9, ggR_rules_10, ggR_rules_11, ggR_rules_12, ggR_rules_13, ggR_rules_14, ccR_rules_0_2, ccR_rules_0_1, ccR_rules_3_1, ccR_rules_7_1, eu, ef, rR_throwsIf_f, k_373, am_kI_x, am_kV_x, am_kI_i, am_nI_i, am_kV_i, am_nV_i, ↓reduceIte, eq_self, if_true, if_false, c_in, c_tn, pn_add, pn_mul, pn_subc, pn_addm, c_le_t, c_le_f, c_lt_t, c_lt_f, c_eq_f, c_eqm, bi_z, bi_1, bi_b, bi_T, bi_F, ite_not, up_eq, up_ne, or_self, or_true, true_or, or_false, false_or, and_true, true_and, and_self, not_true_eq_false, not_false_eq_true, Bool.false_eq_true]
      exact rl
  · rw [bi_f ok] at ef
    have en := fun d => xF_needLives_x hn e1 hBC ok d
    refine ⟨am_th (usedC hC 0), am_up (usedR hR n) 373 0 (Int32.ofNat 1), ((J.used 0 n).thr (Int32.ofNat 1)).th, rfl, Or.inr ⟨1, 1, (Int32.ofNat 0), rfl, by decide, up_eq rfl rfl, ?_, ?_⟩⟩
    · simp -implicitDefEqProofs (disch := (first | omega | assumption | exact am_isS_3 | exact am_isS_25 | exact am_isX_356 | exact am_isX_359)) only [uF_rules, ggF_rules_0, ggF_rules_1, ggF_rules_2, ggF_rules_3, ccF_rules_0_2, ccF_rules_0_1, ccF_rules_1_1, en, am_kI_x, am_kV_x, am_kI_i, am_nI_i, am_kV_i, am_nV_i, ↓reduceIte, eq_self, if_true, if_false, c_in, c_tn, pn_add, pn_mul, pn_subc, pn_addm, c_le_t, c_le_f, c_lt_t, c_lt_f, c_eq_f, c_eqm, bi_z, bi_1, bi_b, bi_T, bi_F, ite_not, up_eq, up_ne, or_self, or_true, true_or, or_false, false_or, and_true, true_and, and_self, not_true_eq_false, not_false_eq_true, Bool.false_eq_true]
    · simp -implicitDefEqProofs (disch := (first | omega | assumption | exact am_isS_3 | exact am_isS_25 | exact am_isX_356 | exact am_isX_359)) only [uR_rules, ggR_rules_0, ggR_rules_1, ggR_rules_2, ggR_rules_3, ggR_rules_4, ggR_rules_5, ggR_rules_7, ggR_rules_8, ggR_rules_9, ggR_rules_10, ggR_rules_11, ggR_rules_12, ggR_rules_13, ggR_rules_14, ccR_rules_0_2, ccR_rules_0_1, ccR_rules_3_1, ccR_rules_7_1, eu, ef, rR_throwsIf_t, k_373, am_kI_x, am_kV_x, am_kI_i, am_nI_i, am_kV_i, am_nV_i, ↓reduceIte, eq_self, if_true, if_false, c_in, c_tn, pn_add, pn_mul, pn_subc, pn_addm, c_le_t, c_le_f, c_lt_t, c_lt_f, c_eq_f, c_eqm, bi_z, bi_1, bi_b, bi_T, bi_F, ite_not, up_eq, up_ne, or_self, or_true, true_or, or_false, false_or, and_true, true_and, and_self, not_true_eq_false, not_false_eq_true, Bool.false_eq_true]
theorem zero_C (d : Nat) (t : Int32) (x3 : Int32) : ∀ (k i : Nat) (h : am_H), i + k = 1000 → (∀ j, j < i → h.2 372 j = (Int32.ofNat 0)) → ∃ h', am_go (am_cl d) qU_greatestPart 1 [.ref 370, .ref 3, .int t, .int (Int32.ofNat i), .null, .null] [] h = am_go (am_cl d) qU_greatestPart 4 [.ref 370, .ref 3, .int t, .int (Int32.ofNat 0), .int (Int32.ofNat 0), .null] [] h' ∧ h'.1 = h.1 ∧ (∀ j, j < 1000 → h'.2 372 j = (Int32.ofNat 0)) ∧ ∀ p, p ≠ 372 → h'.2 p = h.2 p := by
  intro k
  induction k with
  | zero =>
    intro i h hi e
    have hi : i = 1000 := by omega
    subst hi
    refine ⟨h, ?_, rfl, e, fun _ _ => rfl⟩
    rw [ggU_greatestPart_1]
    simp -implicitDefEqProofs (disch := (first | omega | assumption | exact am_isS_3 | exact am_isS_25 | exact am_isX_356 | exact am_isX_359)) only [ggU_greatestPart_0, ggU_greatestPart_2, ggU_greatestPart_3, ggU_greatestPart_5, ggU_greatestPart_6, ggU_greatestPart_7, ggU_greatestPart_8, ggU_greatestPart_9, ccU_greatestPart_5_1, am_kI_x, am_kV_x, am_kI_i, am_nI_i, am_kV_i, am_nV_i, ↓reduceIte, eq_self, if_true, if_false, c_in, c_tn, pn_add, pn_mul, pn_subc, pn_addm, c_le_t, c_le_f, c_lt_t, c_lt_f, c_eq_f, c_eqm, bi_z, bi_1, bi_b, bi_T, bi_F, ite_not, up_eq, up_ne, or_self, or_true, true_or, or_false, false_or, and_true, true_and, and_self, not_true_eq_false, not_false_eq_true, Bool.false_eq_true]
  | succ k ih =>
    intro i h hi e
    obtain ⟨h', a, b, c, f⟩ := ih (i + 1) (am_up h 372 i (Int32.ofNat 0)) (by omega) (fun j hj => by
      by_cases hz : j = i
      · rw [hz, up_eq rfl rfl]
      · rw [up_ne (by omega)]; exact e j (by omega))
    refine ⟨h', ?_, b, c, fun p hp => by rw [f p hp, up_o hp]⟩
    rw [ggU_greatestPart_1]
    simp -implicitDefEqProofs (disch := (first | omega | assumption | exact am_isS_3 | exact am_isS_25 | exact am_isX_356 | exact am_isX_359)) only [ggU_greatestPart_0, ggU_greatestPart_2, ggU_greatestPart_3, ggU_greatestPart_5, ggU_greatestPart_6, ggU_greatestPart_7, ggU_greatestPart_8, ggU_greatestPart_9, ccU_greatestPart_5_1, am_kI_x, am_kV_x, am_kI_i, am_nI_i, am_kV_i, am_nV_i, ↓reduceIte, eq_self, if_true, if_false, c_in, c_tn, pn_add, pn_mul, pn_subc, pn_addm, c_le_t, c_le_f, c_lt_t, c_lt_f, c_eq_f, c_eqm, bi_z, bi_1, bi_b, bi_T, bi_F, ite_not, up_eq, up_ne, or_self, or_true, true_or, or_false, false_or, and_true, true_and, and_self, not_true_eq_false, not_false_eq_true, Bool.false_eq_true]
    exact a
theorem zero_R (d : Nat) (t : Int32) : ∀ (k i : Nat) (h : am_H), i + k = 1000 → (∀ j, j < i → h.2 388 j = (Int32.ofNat 0)) → ∃ h', am_go (am_cl d) qR_partBy 1 [.ref 373, .int t, .int (Int32.ofNat 0), .int (Int32.ofNat i), .null] [] h = am_go (am_cl d) qR_partBy 4 [.ref 373, .int t, .int (Int32.ofNat 0), .int (Int32.ofNat 0), .null] [] h' ∧ h'.1 = h.1 ∧ (∀ j, j < 1000 → h'.2 388 j = (Int32.ofNat 0)) ∧ ∀ p, p ≠ 388 → h'.2 p = h.2 p := by
  intro k
  induction k with
  | zero =>
    intro i h hi e
    have hi : i = 1000 := by omega
    subst hi
    refine ⟨h, ?_, rfl, e, fun _ _ => rfl⟩
    rw [ggR_partBy_1]
    simp -implicitDefEqProofs (disch := (first | omega | assumption | exact am_isS_3 | exact am_isS_25 | exact am_isX_356 | exact am_isX_359)) only [ggR_partBy_0, ggR_partBy_2, ggR_partBy_3, ggR_partBy_5, ggR_partBy_6, ggR_partBy_7, ggR_partBy_8, ggR_partBy_9, ccR_partBy_5_1, ccR_partBy_7_1, am_kI_x, am_kV_x, am_kI_i, am_nI_i, am_kV_i, am_nV_i, ↓reduceIte, eq_self, if_true, if_false, c_in, c_tn, pn_add, pn_mul, pn_subc, pn_addm, c_le_t, c_le_f, c_lt_t, c_lt_f, c_eq_f, c_eqm, bi_z, bi_1, bi_b, bi_T, bi_F, ite_not, up_eq, up_ne, or_self, or_true, true_or, or_false, false_or, and_true, true_and, and_self, not_true_eq_false, not_false_eq_true, Bool.false_eq_true]
  | succ k ih =>
    intro i h hi e
    obtain ⟨h', a, b, c, f⟩ := ih (i + 1) (am_up h 388 i (Int32.ofNat 0)) (by omega) (fun j hj => by
      by_cases hz : j = i
      · rw [hz, up_eq rfl rfl]
      · rw [up_ne (by omega)]; exact e j (by omega))
    refine ⟨h', ?_, b, c, fun p hp => by rw [f p hp, up_o hp]⟩
    rw [ggR_partBy_1]
    simp -implicitDefEqProofs (disch := (first | omega | assumption | exact am_isS_3 | exact am_isS_25 | exact am_isX_356 | exact am_isX_359)) only [ggR_partBy_0, ggR_partBy_2, ggR_partBy_3, ggR_partBy_5, ggR_partBy_6, ggR_partBy_7, ggR_partBy_8, ggR_partBy_9, ccR_partBy_5_1, ccR_partBy_7_1, am_kI_x, am_kV_x, am_kI_i, am_nI_i, am_kV_i, am_nV_i, ↓reduceIte, eq_self, if_true, if_false, c_in, c_tn, pn_add, pn_mul, pn_subc, pn_addm, c_le_t, c_le_f, c_lt_t, c_lt_f, c_eq_f, c_eqm, bi_z, bi_1, bi_b, bi_T, bi_F, ite_not, up_eq, up_ne, or_self, or_true, true_or, or_false, false_or, and_true, true_and, and_self, not_true_eq_false, not_false_eq_true, Bool.false_eq_true]
    exact a
theorem part_l {W : Nat → Int32} {N G n t : Nat} {B v : Nat → Nat} (hv : ∀ t, t < 9 → v t ≤ 99 ∧ W (7 + 4 * t + 3) = (Int32.ofNat (v t))) (ht : t < 9) (d d' : Nat) : ∀ (k r g : Nat) (hC hR : am_H) (x5 y5 : Value), r + k = 1000 → g ≤ r → RelS hC 3 W N G → hR.2 374 = W → toldL hC hR B n → (∀ j, j < 1000 → hC.2 371 j = bi (allN (frN v B j) n = true)) → (∀ j, j < 1000 → ∃ c, c ≤ r ∧ hC.2 372 j = (Int32.ofNat c) ∧ hR.2 388 j = (Int32.ofNat c)) → ∃ g' hC' hR', g' ≤ 1000 ∧ am_go (am_cl (d + 1)) qU_greatestPart 4 [.ref 370, .ref 3, .int (Int32.ofNat t), .int (Int32.ofNat g), .int (Int32.ofNat r), x5] [] hC = some (.inl (some ((Int32.ofNat g'))), hC') ∧ am_go (am_cl (d' + 4)) qR_partBy 4 [.ref 373, .int (Int32.ofNat t), .int (Int32.ofNat g), .int (Int32.ofNat r), y5] [] hR = some (.inl (some ((Int32.ofNat g'))), hR') ∧ hC'.1 = hC.1 ∧ hR'.1 = hR.1 ∧ (∀ p, p ≠ 372 → hC'.2 p = hC.2 p) ∧ ∀ p, p ≠ 388 → hR'.2 p = hR.2 p := by
  intro k
  induction k with
  | zero =>
    intro r g hC hR x5 y5 hr hg R eW T e1 e2
    have hr : r = 1000 := by omega
    subst hr
    refine ⟨g, hC, hR, hg, ?_, ?_, rfl, rfl, fun _ _ => rfl, fun _ _ => rfl⟩
    · rw [ggU_greatestPart_4]
      simp -implicitDefEqProofs (disch := (first | omega | assumption | exact am_isS_3 | exact am_isS_25 | exact am_isX_356 | exact am_isX_359)) only [ggU_greatestPart_0, ggU_greatestPart_2, ggU_greatestPart_3, ggU_greatestPart_5, ggU_greatestPart_6, ggU_greatestPart_7, ggU_greatestPart_8, ggU_greatestPart_9, ccU_greatestPart_5_1, am_kI_x, am_kV_x, am_kI_i, am_nI_i, am_kV_i, am_nV_i, ↓reduceIte, eq_self, if_true, if_false, c_in, c_tn, pn_add, pn_mul, pn_subc, pn_addm, c_le_t, c_le_f, c_lt_t, c_lt_f, c_eq_f, c_eqm, bi_z, bi_1, bi_b, bi_T, bi_F, ite_not, up_eq, up_ne, or_self, or_true, true_or, or_false, false_or, and_true, true_and, and_self, not_true_eq_false, not_false_eq_true, Bool.false_eq_true]
    · rw [ggR_partBy_4]
      simp -implicitDefEqProofs (disch := (first | omega | assumption | exact am_isS_3 | exact am_isS_25 | exact am_isX_356 | exact am_isX_359)) only [ggR_partBy_0, ggR_partBy_2, ggR_partBy_3, ggR_partBy_5, ggR_partBy_6, ggR_partBy_7, ggR_partBy_8, ggR_partBy_9, ccR_partBy_5_1, ccR_partBy_7_1, am_kI_x, am_kV_x, am_kI_i, am_nI_i, am_kV_i, am_nV_i, ↓reduceIte, eq_self, if_true, if_false, c_in, c_tn, pn_add, pn_mul, pn_subc, pn_addm, c_le_t, c_le_f, c_lt_t, c_lt_f, c_eq_f, c_eqm, bi_z, bi_1, bi_b, bi_T, bi_F, ite_not, up_eq, up_ne, or_self, or_true, true_or, or_false, false_or, and_true, true_and, and_self, not_true_eq_false, not_false_eq_true, Bool.false_eq_true]
  | succ k ih =>
    intro r g hC hR x5 y5 hr hg R eW T e1 e2
    have hvR : ∀ t, t < 9 → v t ≤ 99 ∧ hR.2 374 (7 + 4 * t + 3) = (Int32.ofNat (v t)) := by rw [eW]; exact hv
    have fC := fun d => xU_fateBy R hv (r := r) (by omega) ht d
    have fR := fun d => rR_fateBy hvR (r := r) (by omega) ht d
    have fl := fbN_lt (r := r) (hv t ht).1 (by omega)
    have ef := fun d => rR_fits hvR T (r := r) (by omega) d
    have er := e1 r (by omega)
    generalize fbN v r t = f at fC fR fl
    by_cases hq : allN (frN v B r) n = true
    · rw [bi_t hq] at ef er
      obtain ⟨c, hc, c1, c2⟩ := e2 f fl
      obtain ⟨g', hC', hR', a1, a2, a3, a4, a5, a6, a7⟩ := ih (r + 1) (max g (c + 1)) (am_up hC 372 f (Int32.ofNat (c + 1))) (am_up hR 388 f (Int32.ofNat (c + 1))) (.int (Int32.ofNat f)) (.int (Int32.ofNat f)) (by omega) (by omega) (R.frame (fun p h1 h2 => up_o (by omega))) (by rw [up_o (by omega)]; exact eW) (T.of (up_ne (by omega)) (up_o (by omega)) (up_ne (by omega)) (up_o (by omega))) (fun j hj => by rw [up_ne (by omega)]; exact e1 j hj) (fun j hj => by
        by_cases hz : j = f
        · exact ⟨c + 1, by omega, by rw [hz, up_eq rfl rfl], by rw [hz, up_eq rfl rfl]⟩
        · obtain ⟨c', hc', q1, q2⟩ := e2 j hj
          exact ⟨c', by omega, by rw [up_ne (by omega)]; exact q1, by rw [up_ne (by omega)]; exact q2⟩)
      refine ⟨g', hC', hR', a1, ?_, ?_, a4, a5, fun p hp => by rw [a6 p hp, up_o hp], fun p hp => by rw [a7 p hp, up_o hp]⟩
      · rw [ggU_greatestPart_4]
        simp -implicitDefEqProofs (disch := (first | omega | assumption | exact am_isS_3 | exact am_isS_25 | exact am_isX_356 | exact am_isX_359)) only [ggU_greatestPart_0, ggU_greatestPart_2, ggU_greatestPart_3, ggU_greatestPart_5, ggU_greatestPart_6, ggU_greatestPart_7, ggU_greatestPart_8, ggU_greatestPart_9, ccU_greatestPart_5_1, fC, er, c1, pn_max, am_kI_x, am_kV_x, am_kI_i, am_nI_i, am_kV_i, am_nV_i, ↓reduceIte, eq_self, if_true, if_false, c_in, c_tn, pn_add, pn_mul, pn_subc, pn_addm, c_le_t, c_le_f, c_lt_t, c_lt_f, c_eq_f, c_eqm, bi_z, bi_1, bi_b, bi_T, bi_F, ite_not, up_eq, up_ne, or_self, or_true, true_or, or_false, false_or, and_true, true_and, and_self, not_true_eq_false, not_false_eq_true, Bool.false_eq_true]
        exact a2
      · rw [ggR_partBy_4]
        simp -implicitDefEqProofs (disch := (first | omega | assumption | exact am_isS_3 | exact am_isS_25 | exact am_isX_356 | exact am_isX_359)) only [ggR_partBy_0, ggR_partBy_2, ggR_partBy_3, ggR_partBy_5, ggR_partBy_6, ggR_partBy_7, ggR_partBy_8, ggR_partBy_9, ccR_partBy_5_1, ccR_partBy_7_1, fR, ef, c2, pn_max, am_kI_x, am_kV_x, am_kI_i, am_nI_i, am_kV_i, am_nV_i, ↓reduceIte, eq_self, if_true, if_false, c_in, c_tn, pn_add, pn_mul, pn_subc, pn_addm, c_le_t, c_le_f, c_lt_t, c_lt_f, c_eq_f, c_eqm, bi_z, bi_1, bi_b, bi_T, bi_F, ite_not, up_eq, up_ne, or_self, or_true, true_or, or_false, false_or, and_true, true_and, and_self, not_true_eq_false, not_false_eq_true, Bool.false_eq_true]
        exact a3
    · rw [bi_f hq] at ef er
      obtain ⟨g', hC', hR', a1, a2, a3, a4, a5, a6, a7⟩ := ih (r + 1) g hC hR (.int (Int32.ofNat f)) y5 (by omega) (by omega) R eW T e1 (fun j hj => by
        obtain ⟨c', hc', q1, q2⟩ := e2 j hj
        exact ⟨c', by omega, q1, q2⟩)
      refine ⟨g', hC', hR', a1, ?_, ?_, a4, a5, a6, a7⟩
      · rw [ggU_greatestPart_4]
        simp -implicitDefEqProofs (disch := (first | omega | assumption | exact am_isS_3 | exact am_isS_25 | exact am_isX_356 | exact am_isX_359)) only [ggU_greatestPart_0, ggU_greatestPart_2, ggU_greatestPart_3, ggU_greatestPart_5, ggU_greatestPart_6, ggU_greatestPart_7, ggU_greatestPart_8, ggU_greatestPart_9, ccU_greatestPart_5_1, fC, er, am_kI_x, am_kV_x, am_kI_i, am_nI_i, am_kV_i, am_nV_i, ↓reduceIte, eq_self, if_true, if_false, c_in, c_tn, pn_add, pn_mul, pn_subc, pn_addm, c_le_t, c_le_f, c_lt_t, c_lt_f, c_eq_f, c_eqm, bi_z, bi_1, bi_b, bi_T, bi_F, ite_not, up_eq, up_ne, or_self, or_true, true_or, or_false, false_or, and_true, true_and, and_self, not_true_eq_false, not_false_eq_true, Bool.false_eq_true]
        exact a2
      · rw [ggR_partBy_4]
        simp -implicitDefEqProofs (disch := (first | omega | assumption | exact am_isS_3 | exact am_isS_25 | exact am_isX_356 | exact am_isX_359)) only [ggR_partBy_0, ggR_partBy_2, ggR_partBy_3, ggR_partBy_5, ggR_partBy_6, ggR_partBy_7, ggR_partBy_8, ggR_partBy_9, ccR_partBy_5_1, ccR_partBy_7_1, ef, am_kI_x, am_kV_x, am_kI_i, am_nI_i, am_kV_i, am_nV_i, ↓reduceIte, eq_self, if_true, if_false, c_in, c_tn, pn_add, pn_mul, pn_subc, pn_addm, c_le_t, c_le_f, c_lt_t, c_lt_f, c_eq_f, c_eqm, bi_z, bi_1, bi_b, bi_T, bi_F, ite_not, up_eq, up_ne, or_self, or_true, true_or, or_false, false_or, and_true, true_and, and_self, not_true_eq_false, not_false_eq_true, Bool.false_eq_true]
        exact a3
theorem part_both {W : Nat → Int32} {N G n t : Nat} {B v : Nat → Nat} {hC hR : am_H} (hv : ∀ t, t < 9 → v t ≤ 99 ∧ W (7 + 4 * t + 3) = (Int32.ofNat (v t))) (ht : t < 9) (R : RelS hC 3 W N G) (eW : hR.2 374 = W) (T : toldL hC hR B n) (e1 : ∀ j, j < 1000 → hC.2 371 j = bi (allN (frN v B j) n = true)) (d d' : Nat) : ∃ g' hC' hR', g' ≤ 1000 ∧ am_cl (d + 2) qU_greatestPart [.ref 370, .ref 3, .int (Int32.ofNat t)] hC = some (.inl (some ((Int32.ofNat g'))), hC') ∧ am_cl (d' + 5) qR_partBy [.ref 373, .int (Int32.ofNat t)] hR = some (.inl (some ((Int32.ofNat g'))), hR') ∧ hC'.1 = hC.1 ∧ hR'.1 = hR.1 ∧ (∀ p, p ≠ 372 → hC'.2 p = hC.2 p) ∧ ∀ p, p ≠ 388 → hR'.2 p = hR.2 p := by
  obtain ⟨h1, a1, a2, a3, a4⟩ := zero_C (d + 1) (Int32.ofNat t) (Int32.ofNat 0) 1000 0 hC (by omega) (fun j hj => by omega)
  obtain ⟨h2, b1, b2, b3, b4⟩ := zero_R (d' + 4) (Int32.ofNat t) 1000 0 hR (by omega) (fun j hj => by omega)
  obtain ⟨g', hC', hR', c1, c2, c3, c4, c5, c6, c7⟩ := part_l hv ht d d' 1000 0 0 h1 h2 .null .null (by omega) (by omega) (R.frame (fun p q1 q2 => a4 p (by omega))) (by rw [b4 374 (by omega)]; exact eW) (T.of (by rw [a4 1 (by omega)]) (a4 2 (by omega)) (by rw [b4 373 (by omega)]) (b4 379 (by omega))) (fun j hj => by rw [a4 371 (by omega)]; exact e1 j hj) (fun j hj => ⟨0, by omega, a3 j hj, b3 j hj⟩)
  refine ⟨g', hC', hR', c1, ?_, ?_, c4.trans a2, c5.trans b2, fun p hp => by rw [c6 p hp, a4 p hp], fun p hp => by rw [c7 p hp, b4 p hp]⟩
  · rw [uU_greatestPart, ggU_greatestPart_0]; exact a1.trans c2
  · rw [uR_partBy, ggR_partBy_0]; exact b1.trans c3
theorem tell_l {W : Nat → Int32} {N G n c : Nat} {B v : Nat → Nat} (hv : ∀ t, t < 9 → v t ≤ 99 ∧ W (7 + 4 * t + 3) = (Int32.ofNat (v t))) (hc1 : 1 < c) (hc2 : c ≤ 1000) (d d' : Nat) : ∀ (k t : Nat) (b : Int32) (l m : Nat) (hC hR : am_H) (x5 y5 : Value), t + k = 8 → (t = 0 ∧ l = 1001 ∧ m = 1000000 ∨ l = m ∧ m ≤ 1000) → RelS hC 3 W N G → hR.2 374 = W → toldL hC hR B n → (∀ j, j < 1000 → hC.2 371 j = bi (allN (frN v B j) n = true)) → ∃ b' hC' hR', am_go (am_cl (d + 2)) qU_bestThing 3 [.ref 370, .ref 3, .int b, .int (Int32.ofNat l), .int (Int32.ofNat t), x5] [] hC = some (.inl (some (b')), hC') ∧ am_go (am_cl (d' + 5)) qR_tell 12 [.ref 373, .int (Int32.ofNat c), .int b, .int (Int32.ofNat m), .int (Int32.ofNat t), y5] [] hR = some (.inl (some (b')), hR') ∧ hC'.1 = hC.1 ∧ hR'.1 = hR.1 ∧ (∀ p, p ≠ 372 → hC'.2 p = hC.2 p) ∧ ∀ p, p ≠ 388 → hR'.2 p = hR.2 p := by
  intro k
  induction k with
  | zero =>
    intro t b l m hC hR x5 y5 ht hl R eW T e1
    have ht : t = 8 := by omega
    subst ht
    refine ⟨b, hC, hR, ?_, ?_, rfl, rfl, fun _ _ => rfl, fun _ _ => rfl⟩
    · rw [ggU_bestThing_3]
      simp -implicitDefEqProofs (disch := (first | omega | assumption | exact am_isS_3 | exact am_isS_25 | exact am_isX_356 | exact am_isX_359)) only [ggU_bestThing_0, ggU_bestThing_1, ggU_bestThing_2, ggU_bestThing_4, ggU_bestThing_5, ggU_bestThing_6, ggU_bestThing_7, ccU_bestThing_4_1, am_kI_x, am_kV_x, am_kI_i, am_nI_i, am_kV_i, am_nV_i, ↓reduceIte, eq_self, if_true, if_false, c_in, c_tn, pn_add, pn_mul, pn_subc, pn_addm, c_le_t, c_le_f, c_lt_t, c_lt_f, c_eq_f, c_eqm, bi_z, bi_1, bi_b, bi_T, bi_F, ite_not, up_eq, up_ne, or_self, or_true, true_or, or_false, false_or, and_true, true_and, and_self, not_true_eq_false, not_false_eq_true, Bool.false_eq_true]
    · rw [ggR_tell_12]
      simp -implicitDefEqProofs (disch := (first | omega | assumption | exact am_isS_3 | exact am_isS_25 | exact am_isX_356 | exact am_isX_359)) only [ggR_tell_0, ggR_tell_1, ggR_tell_2, ggR_tell_3, ggR_tell_4, ggR_tell_5, ggR_tell_7, ggR_tell_8, ggR_tell_9, ggR_tell_10, ggR_tell_11, ggR_tell_13, ggR_tell_14, ggR_tell_15, ggR_tell_16, ggR_tell_17, ggR_tell_18, ccR_tell_0_2, ccR_tell_0_1, ccR_tell_3_1, ccR_tell_7_1, ccR_tell_14_1, am_kI_x, am_kV_x, am_kI_i, am_nI_i, am_kV_i, am_nV_i, ↓reduceIte, eq_self, if_true, if_false, c_in, c_tn, pn_add, pn_mul, pn_subc, pn_addm, c_le_t, c_le_f, c_lt_t, c_lt_f, c_eq_f, c_eqm, bi_z, bi_1, bi_b, bi_T, bi_F, ite_not, up_eq, up_ne, or_self, or_true, true_or, or_false, false_or, and_true, true_and, and_self, not_true_eq_false, not_false_eq_true, Bool.false_eq_true]
  | succ k ih =>
    intro t b l m hC hR x5 y5 ht hl R eW T e1
    obtain ⟨g, h1, h2, a1, a2, a3, a4, a5, a6, a7⟩ := part_both hv (t := t) (by omega) R eW T e1 d d'
    have go := fun b l m x5 y5 q => ih (t + 1) b l m h1 h2 x5 y5 (by omega) q (R.frame (fun p q1 q2 => a6 p (by omega))) (by rw [a7 374 (by omega)]; exact eW) (T.of (by rw [a6 1 (by omega)]) (a6 2 (by omega)) (by rw [a7 373 (by omega)]) (a7 379 (by omega))) (fun j hj => by rw [a6 371 (by omega)]; exact e1 j hj)
    by_cases hq : g < l
    · have hq2 : g < m := by omega
      obtain ⟨b', hC', hR', c1, c2, c3, c4, c5, c6⟩ := go (Int32.ofNat t) g (min m g) (.int (Int32.ofNat g)) (.int (Int32.ofNat g)) (by omega)
      refine ⟨b', hC', hR', ?_, ?_, c3.trans a4, c4.trans a5, fun p hp => by rw [c5 p hp, a6 p hp], fun p hp => by rw [c6 p hp, a7 p hp]⟩
      · rw [ggU_bestThing_3]
        simp -implicitDefEqProofs (disch := (first | omega | assumption | exact am_isS_3 | exact am_isS_25 | exact am_isX_356 | exact am_isX_359)) only [ggU_bestThing_0, ggU_bestThing_1, ggU_bestThing_2, ggU_bestThing_4, ggU_bestThing_5, ggU_bestThing_6, ggU_bestThing_7, ccU_bestThing_4_1, a2, am_kI_x, am_kV_x, am_kI_i, am_nI_i, am_kV_i, am_nV_i, ↓reduceIte, eq_self, if_true, if_false, c_in, c_tn, pn_add, pn_mul, pn_subc, pn_addm, c_le_t, c_le_f, c_lt_t, c_lt_f, c_eq_f, c_eqm, bi_z, bi_1, bi_b, bi_T, bi_F, ite_not, up_eq, up_ne, or_self, or_true, true_or, or_false, false_or, and_true, true_and, and_self, not_true_eq_false, not_false_eq_true, Bool.false_eq_true]
        exact c1
      · rw [ggR_tell_12]
        simp -implicitDefEqProofs (disch := (first | omega | assumption | exact am_isS_3 | exact am_isS_25 | exact am_isX_356 | exact am_isX_359)) only [ggR_tell_0, ggR_tell_1, ggR_tell_2, ggR_tell_3, ggR_tell_4, ggR_tell_5, ggR_tell_7, ggR_tell_8, ggR_tell_9, ggR_tell_10, ggR_tell_11, ggR_tell_13, ggR_tell_14, ggR_tell_15, ggR_tell_16, ggR_tell_17, ggR_tell_18, ccR_tell_0_2, ccR_tell_0_1, ccR_tell_3_1, ccR_tell_7_1, ccR_tell_14_1, a3, pn_min, am_kI_x, am_kV_x, am_kI_i, am_nI_i, am_kV_i, am_nV_i, ↓reduceIte, eq_self, if_true, if_false, c_in, c_tn, pn_add, pn_mul, pn_subc, pn_addm, c_le_t, c_le_f, c_lt_t, c_lt_f, c_eq_f, c_eqm, bi_z, bi_1, bi_b, bi_T, bi_F, ite_not, up_eq, up_ne, or_self, or_true, true_or, or_false, false_or, and_true, true_and, and_self, not_true_eq_false, not_false_eq_true, Bool.false_eq_true]
        exact c2
    · have hq2 : m ≤ g := by omega
      obtain ⟨b', hC', hR', c1, c2, c3, c4, c5, c6⟩ := go b l (min m g) (.int (Int32.ofNat g)) (.int (Int32.ofNat g)) (by omega)
      refine ⟨b', hC', hR', ?_, ?_, c3.trans a4, c4.trans a5, fun p hp => by rw [c5 p hp, a6 p hp], fun p hp => by rw [c6 p hp, a7 p hp]⟩
      · rw [ggU_bestThing_3]
        simp -implicitDefEqProofs (disch := (first | omega | assumption | exact am_isS_3 | exact am_isS_25 | exact am_isX_356 | exact am_isX_359)) only [ggU_bestThing_0, ggU_bestThing_1, ggU_bestThing_2, ggU_bestThing_4, ggU_bestThing_5, ggU_bestThing_6, ggU_bestThing_7, ccU_bestThing_4_1, a2, am_kI_x, am_kV_x, am_kI_i, am_nI_i, am_kV_i, am_nV_i, ↓reduceIte, eq_self, if_true, if_false, c_in, c_tn, pn_add, pn_mul, pn_subc, pn_addm, c_le_t, c_le_f, c_lt_t, c_lt_f, c_eq_f, c_eqm, bi_z, bi_1, bi_b, bi_T, bi_F, ite_not, up_eq, up_ne, or_self, or_true, true_or, or_false, false_or, and_true, true_and, and_self, not_true_eq_false, not_false_eq_true, Bool.false_eq_true]
        exact c1
      · rw [ggR_tell_12]
        simp -implicitDefEqProofs (disch := (first | omega | assumption | exact am_isS_3 | exact am_isS_25 | exact am_isX_356 | exact am_isX_359)) only [ggR_tell_0, ggR_tell_1, ggR_tell_2, ggR_tell_3, ggR_tell_4, ggR_tell_5, ggR_tell_7, ggR_tell_8, ggR_tell_9, ggR_tell_10, ggR_tell_11, ggR_tell_13, ggR_tell_14, ggR_tell_15, ggR_tell_16, ggR_tell_17, ggR_tell_18, ccR_tell_0_2, ccR_tell_0_1, ccR_tell_3_1, ccR_tell_7_1, ccR_tell_14_1, a3, pn_min, am_kI_x, am_kV_x, am_kI_i, am_nI_i, am_kV_i, am_nV_i, ↓reduceIte, eq_self, if_true, if_false, c_in, c_tn, pn_add, pn_mul, pn_subc, pn_addm, c_le_t, c_le_f, c_lt_t, c_lt_f, c_eq_f, c_eqm, bi_z, bi_1, bi_b, bi_T, bi_F, ite_not, up_eq, up_ne, or_self, or_true, true_or, or_false, false_or, and_true, true_and, and_self, not_true_eq_false, not_false_eq_true, Bool.false_eq_true]
        exact c2
theorem rR_tell_c {hC h : am_H} {n : Nat} {B v : Nat → Nat} (hv : ∀ t, t < 9 → v t ≤ 99 ∧ h.2 374 (7 + 4 * t + 3) = (Int32.ofNat (v t))) (T : toldL hC h B n) (d : Nat) : am_go (am_cl (d + 5)) qR_tell 6 [.ref 373, .int (Int32.ofNat 0), .int (Int32.ofNat 0), .null, .null, .null] [] h = am_go (am_cl (d + 5)) qR_tell 12 [.ref 373, .int (Int32.ofNat (cnt (fun r => allN (frN v B r) n) 1000)), .int (-1), .int (Int32.ofNat 1000000), .int (Int32.ofNat 0), .null] [] h := by
  rw [← itr_cnt]
  refine lp (N := 1000) (L := fun c (b : Nat) => [.ref 373, .int (Int32.ofNat b), .int (Int32.ofNat c), .null, .null, .null]) (H := fun _ => h) (R := fun b => am_go (am_cl (d + 5)) qR_tell 12 [.ref 373, .int (Int32.ofNat b), .int (-1), .int (Int32.ofNat 1000000), .int (Int32.ofNat 0), .null] [] h) (fun c b => b + (if allN (frN v B c) n = true then 1 else 0)) (fun c b hc => ?_) (fun b => ?_) 1000 0 0 (by omega)
  · rw [ggR_tell_6]
    have ef := fun d => rR_fits hv T (r := c) (by omega) d
    by_cases hq : allN (frN v B c) n = true
    · rw [bi_t hq] at ef
      rw [if_pos hq]
      simp -implicitDefEqProofs (disch := (first | omega | assumption | exact am_isS_3 | exact am_isS_25 | exact am_isX_356 | exact am_isX_359)) only [ggR_tell_0, ggR_tell_1, ggR_tell_2, ggR_tell_3, ggR_tell_4, ggR_tell_5, ggR_tell_7, ggR_tell_8, ggR_tell_9, ggR_tell_10, ggR_tell_11, ggR_tell_13, ggR_tell_14, ggR_tell_15, ggR_tell_16, ggR_tell_17, ggR_tell_18, ccR_tell_0_2, ccR_tell_0_1, ccR_tell_3_1, ccR_tell_7_1, ccR_tell_14_1, ef, am_kI_x, am_kV_x, am_kI_i, am_nI_i, am_kV_i, am_nV_i, ↓reduceIte, eq_self, if_true, if_false, c_in, c_tn, pn_add, pn_mul, pn_subc, pn_addm, c_le_t, c_le_f, c_lt_t, c_lt_f, c_eq_f, c_eqm, bi_z, bi_1, bi_b, bi_T, bi_F, ite_not, up_eq, up_ne, or_self, or_true, true_or, or_false, false_or, and_true, true_and, and_self, not_true_eq_false, not_false_eq_true, Bool.false_eq_true]
    · rw [bi_f hq] at ef
      rw [if_neg hq]
      simp -implicitDefEqProofs (disch := (first | omega | assumption | exact am_isS_3 | exact am_isS_25 | exact am_isX_356 | exact am_isX_359)) only [ggR_tell_0, ggR_tell_1, ggR_tell_2, ggR_tell_3, ggR_tell_4, ggR_tell_5, ggR_tell_7, ggR_tell_8, ggR_tell_9, ggR_tell_10, ggR_tell_11, ggR_tell_13, ggR_tell_14, ggR_tell_15, ggR_tell_16, ggR_tell_17, ggR_tell_18, ccR_tell_0_2, ccR_tell_0_1, ccR_tell_3_1, ccR_tell_7_1, ccR_tell_14_1, ef, am_kI_x, am_kV_x, am_kI_i, am_nI_i, am_kV_i, am_nV_i, ↓reduceIte, eq_self, if_true, if_false, c_in, c_tn, pn_add, pn_mul, pn_subc, pn_addm, c_le_t, c_le_f, c_lt_t, c_lt_f, c_eq_f, c_eqm, bi_z, bi_1, bi_b, bi_T, bi_F, ite_not, up_eq, up_ne, or_self, or_true, true_or, or_false, false_or, and_true, true_and, and_self, not_true_eq_false, not_false_eq_true, Bool.false_eq_true]
  · rw [ggR_tell_6]
    simp -implicitDefEqProofs (disch := (first | omega | assumption | exact am_isS_3 | exact am_isS_25 | exact am_isX_356 | exact am_isX_359)) only [ggR_tell_0, ggR_tell_1, ggR_tell_2, ggR_tell_3, ggR_tell_4, ggR_tell_5, ggR_tell_7, ggR_tell_8, ggR_tell_9, ggR_tell_10, ggR_tell_11, ggR_tell_13, ggR_tell_14, ggR_tell_15, ggR_tell_16, ggR_tell_17, ggR_tell_18, ccR_tell_0_2, ccR_tell_0_1, ccR_tell_3_1, ccR_tell_7_1, ccR_tell_14_1, am_kI_x, am_kV_x, am_kI_i, am_nI_i, am_kV_i, am_nV_i, ↓reduceIte, eq_self, if_true, if_false, c_in, c_tn, pn_add, pn_mul, pn_subc, pn_addm, c_le_t, c_le_f, c_lt_t, c_lt_f, c_eq_f, c_eqm, bi_z, bi_1, bi_b, bi_T, bi_F, ite_not, up_eq, up_ne, or_self, or_true, true_or, or_false, false_or, and_true, true_and, and_self, not_true_eq_false, not_false_eq_true, Bool.false_eq_true]
theorem T_tell : Two qF_tell [.ref 0] qR_tell [.ref 373] (am_ctt 26) := by
  intro d hC hR J
  obtain ⟨⟨N, G, R, okt, okc, okk, RL⟩, T, -⟩ := id J
  obtain ⟨n, B, hn, e1, e2, hB⟩ := bts_of T
  have hBC : ∀ i, i < 400 → B i < 256 ∧ hC.2 2 i = (Int32.ofNat (B i)) := fun i hi => ⟨(hB i hi).1, (hB i hi).2.1⟩
  have e374 : (usedR hR n).2 374 = hR.2 374 := usedR_o (by omega)
  have ef := fun d => rR_isLed (h := usedR hR n) hn usedR_11 (B := B) (fun i hi => ⟨(hB i hi).1, by rw [usedR_o (by omega)]; exact (hB i hi).2.2⟩) d
  have eu := fun d => rR_uses e2 d
  by_cases ok : rowsOK B n 7 255 = true
  · rw [bi_t ok] at ef
    have en := fun d => xF_needLives hn e1 hBC ok d
    have tt := toldL_of hB ok
    have RC := R.used (m := n / 2)
    obtain ⟨v, hv⟩ := wo_nat okt
    have hvR : ∀ t, t < 9 → v t ≤ 99 ∧ (usedR hR n).2 374 (7 + 4 * t + 3) = (Int32.ofNat (v t)) := by rw [e374]; exact hv
    obtain ⟨h', fa, fb, fc, fe, ff⟩ := xU_fitTo hv RC tt (d + 116)
    have rc := rR_tell_c hvR tt (d + 114)
    have cl := cnt_le (p := fun r => allN (frN v B r) (n / 2)) 1000
    generalize hcc : cnt (fun r => allN (frN v B r) (n / 2)) 1000 = c at fc rc cl
    by_cases h1 : 1 < c
    · obtain ⟨b', hC', hR', c1, c2, c3, c4, c5, c6⟩ := tell_l (G := G) hv h1 cl (d + 116) (d + 114) 8 0 (-1) 1001 1000000 h' (usedR hR n) .null .null (by omega) (Or.inl ⟨rfl, rfl, rfl⟩) (RC.frame (fun p q1 q2 => ff p (by omega) (by omega))) e374 (tt.of (by rw [ff 1 (by omega) (by omega)]) (ff 2 (by omega) (by omega)) rfl rfl) fe
      refine ⟨hC', hR', ((J.used (n / 2) n).hi (fun p hp => ff p (by omega) (by omega)) (fun _ _ => rfl)).hi (fun p hp => c5 p (by omega)) (fun p hp => c6 p (by omega)), c4, Or.inl ⟨b', c3.trans fb, by rw [c6 373 (by omega)]; exact usedR_0, ?_, ?_⟩⟩
      · simp -implicitDefEqProofs (disch := (first | omega | assumption | exact am_isS_3 | exact am_isS_25 | exact am_isX_356 | exact am_isX_359)) only [uF_tell, ggF_tell_0, ccF_tell_0_3, ccF_tell_0_2, ccF_tell_0_1, ggU_bestThing_0, ggU_bestThing_1, ggU_bestThing_2, ggU_bestThing_4, ggU_bestThing_5, ggU_bestThing_6, ggU_bestThing_7, ccU_bestThing_4_1, uU_bestThing, en, fa, fc, c1, am_kI_x, am_kV_x, am_kI_i, am_nI_i, am_kV_i, am_nV_i, ↓reduceIte, eq_self, if_true, if_false, c_in, c_tn, pn_add, pn_mul, pn_subc, pn_addm, c_le_t, c_le_f, c_lt_t, c_lt_f, c_eq_f, c_eqm, bi_z, bi_1, bi_b, bi_T, bi_F, ite_not, up_eq, up_ne, or_self, or_true, true_or, or_false, false_or, and_true, true_and, and_self, not_true_eq_false, not_false_eq_true, Bool.false_eq_true]
      · simp -implicitDefEqProofs (disch := (first | omega | assumption | exact am_isS_3 | exact am_isS_25 | exact am_isX_356 | exact am_isX_359)) only [uR_tell, ggR_tell_0, ggR_tell_1, ggR_tell_2, ggR_tell_3, ggR_tell_4, ggR_tell_5, ggR_tell_7, ggR_tell_8, ggR_tell_9, ggR_tell_10, ggR_tell_11, ggR_tell_13, ggR_tell_14, ggR_tell_15, ggR_tell_16, ggR_tell_17, ggR_tell_18, ccR_tell_0_2, ccR_tell_0_1, ccR_tell_3_1, ccR_tell_7_1, ccR_tell_14_1, eu, ef, rR_throwsIf_f, k_373, am_kI_x, am_kV_x, am_kI_i, am_nI_i, am_kV_i, am_nV_i, ↓reduceIte, eq_self, if_true, if_false, c_in, c_tn, pn_add, pn_mul, pn_subc, pn_addm, c_le_t, c_le_f, c_lt_t, c_lt_f, c_eq_f, c_eqm, bi_z, bi_1, bi_b, bi_T, bi_F, ite_not, up_eq, up_ne, or_self, or_true, true_or, or_false, false_or, and_true, true_and, and_self, not_true_eq_false, not_false_eq_true, Bool.false_eq_true]
        exact rc.trans c2
    · refine ⟨h', usedR hR n, (J.used (n / 2) n).hi (fun p hp => ff p (by omega) (by omega)) (fun _ _ => rfl), rfl, Or.inl ⟨-1, fb, usedR_0, ?_, ?_⟩⟩
      · simp -implicitDefEqProofs (disch := (first | omega | assumption | exact am_isS_3 | exact am_isS_25 | exact am_isX_356 | exact am_isX_359)) only [uF_tell, ggF_tell_0, ccF_tell_0_3, ccF_tell_0_2, ccF_tell_0_1, ggU_bestThing_0, ggU_bestThing_1, ggU_bestThing_2, ggU_bestThing_4, ggU_bestThing_5, ggU_bestThing_6, ggU_bestThing_7, ccU_bestThing_4_1, uU_bestThing, en, fa, fc, am_kI_x, am_kV_x, am_kI_i, am_nI_i, am_kV_i, am_nV_i, ↓reduceIte, eq_self, if_true, if_false, c_in, c_tn, pn_add, pn_mul, pn_subc, pn_addm, c_le_t, c_le_f, c_lt_t, c_lt_f, c_eq_f, c_eqm, bi_z, bi_1, bi_b, bi_T, bi_F, ite_not, up_eq, up_ne, or_self, or_true, true_or, or_false, false_or, and_true, true_and, and_self, not_true_eq_false, not_false_eq_true, Bool.false_eq_true]
      · simp -implicitDefEqProofs (disch := (first | omega | assumption | exact am_isS_3 | exact am_isS_25 | exact am_isX_356 | exact am_isX_359)) only [uR_tell, ggR_tell_0, ggR_tell_1, ggR_tell_2, ggR_tell_3, ggR_tell_4, ggR_tell_5, ggR_tell_7, ggR_tell_8, ggR_tell_9, ggR_tell_10, ggR_tell_11, ggR_tell_13, ggR_tell_14, ggR_tell_15, ggR_tell_16, ggR_tell_17, ggR_tell_18, ccR_tell_0_2, ccR_tell_0_1, ccR_tell_3_1, ccR_tell_7_1, ccR_tell_14_1, eu, ef, rR_throwsIf_f, k_373, am_kI_x, am_kV_x, am_kI_i, am_nI_i, am_kV_i, am_nV_i, ↓reduceIte, eq_self, if_true, if_false, c_in, c_tn, pn_add, pn_mul, pn_subc, pn_addm, c_le_t, c_le_f, c_lt_t, c_lt_f, c_eq_f, c_eqm, bi_z, bi_1, bi_b, bi_T, bi_F, ite_not, up_eq, up_ne, or_self, or_true, true_or, or_false, false_or, and_true, true_and, and_self, not_true_eq_false, not_false_eq_true, Bool.false_eq_true]
        refine rc.trans ?_
        rw [ggR_tell_12]
        simp -implicitDefEqProofs (disch := (first | omega | assumption | exact am_isS_3 | exact am_isS_25 | exact am_isX_356 | exact am_isX_359)) only [ggR_tell_0, ggR_tell_1, ggR_tell_2, ggR_tell_3, ggR_tell_4, ggR_tell_5, ggR_tell_7, ggR_tell_8, ggR_tell_9, ggR_tell_10, ggR_tell_11, ggR_tell_13, ggR_tell_14, ggR_tell_15, ggR_tell_16, ggR_tell_17, ggR_tell_18, ccR_tell_0_2, ccR_tell_0_1, ccR_tell_3_1, ccR_tell_7_1, ccR_tell_14_1, am_kI_x, am_kV_x, am_kI_i, am_nI_i, am_kV_i, am_nV_i, ↓reduceIte, eq_self, if_true, if_false, c_in, c_tn, pn_add, pn_mul, pn_subc, pn_addm, c_le_t, c_le_f, c_lt_t, c_lt_f, c_eq_f, c_eqm, bi_z, bi_1, bi_b, bi_T, bi_F, ite_not, up_eq, up_ne, or_self, or_true, true_or, or_false, false_or, and_true, true_and, and_self, not_true_eq_false, not_false_eq_true, Bool.false_eq_true]
  · rw [bi_f ok] at ef
    have en := fun d => xF_needLives_x hn e1 hBC ok d
    refine ⟨am_th (usedC hC 0), am_up (usedR hR n) 373 0 (Int32.ofNat 1), ((J.used 0 n).thr (Int32.ofNat 1)).th, rfl, Or.inr ⟨1, 1, (Int32.ofNat 0), rfl, by decide, up_eq rfl rfl, ?_, ?_⟩⟩
    · simp -implicitDefEqProofs (disch := (first | omega | assumption | exact am_isS_3 | exact am_isS_25 | exact am_isX_356 | exact am_isX_359)) only [uF_tell, ggF_tell_0, ccF_tell_0_3, ccF_tell_0_2, ccF_tell_0_1, en, am_kI_x, am_kV_x, am_kI_i, am_nI_i, am_kV_i, am_nV_i, ↓reduceIte, eq_self, if_true, if_false, c_in, c_tn, pn_add, pn_mul, pn_subc, pn_addm, c_le_t, c_le_f, c_lt_t, c_lt_f, c_eq_f, c_eqm, bi_z, bi_1, bi_b, bi_T, bi_F, ite_not, up_eq, up_ne, or_self, or_true, true_or, or_false, false_or, and_true, true_and, and_self, not_true_eq_false, not_false_eq_true, Bool.false_eq_true]
    · simp -implicitDefEqProofs (disch := (first | omega | assumption | exact am_isS_3 | exact am_isS_25 | exact am_isX_356 | exact am_isX_359)) only [uR_tell, ggR_tell_0, ggR_tell_1, ggR_tell_2, ggR_tell_3, ggR_tell_4, ggR_tell_5, ggR_tell_7, ggR_tell_8, ggR_tell_9, ggR_tell_10, ggR_tell_11, ggR_tell_13, ggR_tell_14, ggR_tell_15, ggR_tell_16, ggR_tell_17, ggR_tell_18, ccR_tell_0_2, ccR_tell_0_1, ccR_tell_3_1, ccR_tell_7_1, ccR_tell_14_1, eu, ef, rR_throwsIf_t, k_373, am_kI_x, am_kV_x, am_kI_i, am_nI_i, am_kV_i, am_nV_i, ↓reduceIte, eq_self, if_true, if_false, c_in, c_tn, pn_add, pn_mul, pn_subc, pn_addm, c_le_t, c_le_f, c_lt_t, c_lt_f, c_eq_f, c_eqm, bi_z, bi_1, bi_b, bi_T, bi_F, ite_not, up_eq, up_ne, or_self, or_true, true_or, or_false, false_or, and_true, true_and, and_self, not_true_eq_false, not_false_eq_true, Bool.false_eq_true]
