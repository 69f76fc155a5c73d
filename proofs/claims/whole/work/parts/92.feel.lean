/-! rows of two bytes on the tape; what fits them -/
def allN (p : Nat → Bool) : Nat → Bool
  | 0 => true
  | n + 1 => allN p n && p n
theorem allN_S {p : Nat → Bool} {n : Nat} : allN p (n + 1) = (allN p n && p n) := rfl
theorem allN_iff {p : Nat → Bool} : ∀ {n : Nat}, allN p n = true ↔ ∀ i, i < n → p i = true := by
  intro n
  induction n with
  | zero => exact ⟨fun _ i hi => by omega, fun _ => rfl⟩
  | succ n ih =>
    rw [allN_S, Bool.and_eq_true, ih]
    constructor
    · intro h i hi
      by_cases hq : i = n
      · rw [hq]; exact h.2
      · exact h.1 i (by omega)
    · intro h
      exact ⟨fun i hi => h i (by omega), h n (by omega)⟩
theorem allN_f {p : Nat → Bool} {n i : Nat} (hi : i < n) (hp : p i = false) : allN p n = false := by
  cases h : allN p n with
  | false => rfl
  | true => rw [allN_iff.mp h i hi] at hp; exact hp
theorem sb_all : (List.range 256).all (fun b => (decide (b < 128) && decide ((Int32.ofNat b).toInt8.toInt32 = Int32.ofNat b)) || (decide (128 ≤ b) && decide ((Int32.ofNat b).toInt8.toInt32 < Int32.ofNat 0))) = true := by decide +kernel
theorem sbt_at {b : Nat} (hb : b < 256) : b < 128 ∧ ((Int32.ofNat b)).toInt8.toInt32 = (Int32.ofNat b) ∨ 128 ≤ b ∧ ((Int32.ofNat b)).toInt8.toInt32 < (Int32.ofNat 0) := by
  have := List.all_eq_true.mp sb_all b (List.mem_range.mpr hb)
  rw [Bool.or_eq_true, Bool.and_eq_true, Bool.and_eq_true, decide_eq_true_eq, decide_eq_true_eq, decide_eq_true_eq, decide_eq_true_eq] at this
  exact this
theorem sb_in {b k : Nat} (hb : b < 256) (hk : k < 128) : ((Int32.ofNat 0) ≤ ((Int32.ofNat b)).toInt8.toInt32 ∧ ((Int32.ofNat b)).toInt8.toInt32 ≤ (Int32.ofNat k)) = (b ≤ k) := by
  apply propext
  rcases sbt_at hb with ⟨h1, h2⟩ | ⟨h1, h2⟩
  · rw [h2, pn_le (by omega) (by omega), pn_le (by omega) (by omega)]
    omega
  · constructor
    · intro q
      have q1 := q.1
      rw [Int32.le_iff_toInt_le] at q1
      rw [Int32.lt_iff_toInt_lt] at h2
      omega
    · intro q; omega
theorem sb_255_all : (List.range 256).all (fun b => decide ((Int32.ofNat b).toInt8.toInt32 &&& Int32.ofNat 255 = Int32.ofNat b)) = true := by decide +kernel
theorem sb_255 {b : Nat} (hb : b < 256) : ((Int32.ofNat b)).toInt8.toInt32 &&& (Int32.ofNat 255) = (Int32.ofNat b) := of_decide_eq_true (List.all_eq_true.mp sb_255_all b (List.mem_range.mpr hb))
def rowsOK (B : Nat → Nat) (n x y : Nat) : Bool := decide (n % 2 = 0 ∧ n ≤ 40) && allN (fun i => decide (B (2 * i) ≤ x) && decide (B (2 * i + 1) ≤ y)) (n / 2)
/-- the bytes of both tapes -/
def bts (hC hR : am_H) (B : Nat → Nat) : Prop := ∀ i, i < 400 → B i < 256 ∧ hC.2 2 i = (Int32.ofNat (B i)) ∧ hR.2 379 i = ((Int32.ofNat (B i))).toInt8.toInt32
theorem bts_of {hC hR : am_H} (T : jT hC hR) : ∃ n B, n ≤ 400 ∧ hC.2 1 1 = (Int32.ofNat n) ∧ hR.2 373 9 = (Int32.ofNat n) ∧ bts hC hR B := by
  obtain ⟨n, hn, e1, e2, eb⟩ := T
  refine ⟨n, fun i => (hC.2 2 i).toNatClampNeg, hn, e1, e2, fun i hi => ?_⟩
  obtain ⟨b, hb, e3, e4⟩ := eb i hi
  show (hC.2 2 i).toNatClampNeg < 256 ∧ hC.2 2 i = (Int32.ofNat ((hC.2 2 i).toNatClampNeg)) ∧ hR.2 379 i = ((Int32.ofNat ((hC.2 2 i).toNatClampNeg))).toInt8.toInt32
  rw [e4, e3, c_tn (by omega)]
  exact ⟨hb, rfl, rfl⟩
theorem xT_left {i : Nat} (hi : i < 200) (d : Nat) (h : am_H) : am_cl (d + 1) qT_left [.ref 1, .int (Int32.ofNat i)] h = some (.inl (some (h.2 2 (2 * i))), h) := by simp -implicitDefEqProofs (disch := (first | omega | assumption | exact am_isS_3 | exact am_isS_25 | exact am_isX_356 | exact am_isX_359)) only [uT_left, ggT_left_0, am_kI_x, am_kV_x, am_kI_i, am_nI_i, am_kV_i, am_nV_i, ↓reduceIte, eq_self, if_true, if_false, c_in, c_tn, pn_add, pn_mul, pn_subc, pn_addm, c_le_t, c_le_f, c_lt_t, c_lt_f, c_eq_f, c_eqm, bi_z, bi_1, bi_b, bi_T, bi_F, ite_not, up_eq, up_ne, or_self, or_true, true_or, or_false, false_or, and_true, true_and, and_self, not_true_eq_false, not_false_eq_true, Bool.false_eq_true]
theorem xT_right {i : Nat} (hi : i < 200) (d : Nat) (h : am_H) : am_cl (d + 1) qT_right [.ref 1, .int (Int32.ofNat i)] h = some (.inl (some (h.2 2 (2 * i + 1))), h) := by simp -implicitDefEqProofs (disch := (first | omega | assumption | exact am_isS_3 | exact am_isS_25 | exact am_isX_356 | exact am_isX_359)) only [uT_right, ggT_right_0, am_kI_x, am_kV_x, am_kI_i, am_nI_i, am_kV_i, am_nV_i, ↓reduceIte, eq_self, if_true, if_false, c_in, c_tn, pn_add, pn_mul, pn_subc, pn_addm, c_le_t, c_le_f, c_lt_t, c_lt_f, c_eq_f, c_eqm, bi_z, bi_1, bi_b, bi_T, bi_F, ite_not, up_eq, up_ne, or_self, or_true, true_or, or_false, false_or, and_true, true_and, and_self, not_true_eq_false, not_false_eq_true, Bool.false_eq_true]
theorem xT_takeRows {h : am_H} {n : Nat} (hn : n ≤ 400) (e : h.2 1 1 = (Int32.ofNat n)) {B : Nat → Nat} (hB : ∀ i, i < 400 → B i < 256 ∧ h.2 2 i = (Int32.ofNat (B i))) {x y : Nat} (hx : x < 256) (hy : y < 256) (d : Nat) : am_cl (d + 2) qT_takeRows [.ref 1, .int (Int32.ofNat x), .int (Int32.ofNat y)] h = some (.inl (some (bi (rowsOK B n x y = true))), am_up (am_up h 1 2 (Int32.ofNat (if rowsOK B n x y = true then n / 2 else 0))) 1 1 (Int32.ofNat 0)) := by
  by_cases hq : n % 2 = 0 ∧ n ≤ 40
  · have l : ∀ k i, i + k = n / 2 → am_go (am_cl (d + 1)) qT_takeRows 8 [.ref 1, .int (Int32.ofNat x), .int (Int32.ofNat y), .int (bi (allN (fun i => decide (B (2 * i) ≤ x) && decide (B (2 * i + 1) ≤ y)) i = true)), .int (Int32.ofNat (n / 2)), .int (Int32.ofNat i)] [] h = some (.inl (some (bi (allN (fun i => decide (B (2 * i) ≤ x) && decide (B (2 * i + 1) ≤ y)) (n / 2) = true))), am_up (am_up h 1 2 (Int32.ofNat (if allN (fun i => decide (B (2 * i) ≤ x) && decide (B (2 * i + 1) ≤ y)) (n / 2) = true then n / 2 else 0))) 1 1 (Int32.ofNat 0)) := by
      intro k
      induction k with
      | zero =>
        intro i hi
        have hi : i = n / 2 := by omega
        subst hi
        rw [ggT_takeRows_8]
        by_cases h1 : allN (fun i => decide (B (2 * i) ≤ x) && decide (B (2 * i + 1) ≤ y)) (n / 2) = true
        · rw [bi_t h1, if_pos h1]
          simp -implicitDefEqProofs (disch := (first | omega | assumption | exact am_isS_3 | exact am_isS_25 | exact am_isX_356 | exact am_isX_359)) only [ggT_takeRows_0, ggT_takeRows_1, ggT_takeRows_2, ggT_takeRows_3, ggT_takeRows_4, ggT_takeRows_5, ggT_takeRows_6, ggT_takeRows_7, ggT_takeRows_9, ggT_takeRows_10, ggT_takeRows_11, ggT_takeRows_12, ggT_takeRows_13, ggT_takeRows_14, ggT_takeRows_15, ggT_takeRows_16, ggT_takeRows_17, ggT_takeRows_18, ccT_takeRows_10_1, ccT_takeRows_11_1, k_1, kk_8_8, am_kI_x, am_kV_x, am_kI_i, am_nI_i, am_kV_i, am_nV_i, ↓reduceIte, eq_self, if_true, if_false, c_in, c_tn, pn_add, pn_mul, pn_subc, pn_addm, c_le_t, c_le_f, c_lt_t, c_lt_f, c_eq_f, c_eqm, bi_z, bi_1, bi_b, bi_T, bi_F, ite_not, up_eq, up_ne, or_self, or_true, true_or, or_false, false_or, and_true, true_and, and_self, not_true_eq_false, not_false_eq_true, Bool.false_eq_true]
        · rw [bi_f h1, if_neg h1]
          simp -implicitDefEqProofs (disch := (first | omega | assumption | exact am_isS_3 | exact am_isS_25 | exact am_isX_356 | exact am_isX_359)) only [ggT_takeRows_0, ggT_takeRows_1, ggT_takeRows_2, ggT_takeRows_3, ggT_takeRows_4, ggT_takeRows_5, ggT_takeRows_6, ggT_takeRows_7, ggT_takeRows_9, ggT_takeRows_10, ggT_takeRows_11, ggT_takeRows_12, ggT_takeRows_13, ggT_takeRows_14, ggT_takeRows_15, ggT_takeRows_16, ggT_takeRows_17, ggT_takeRows_18, ccT_takeRows_10_1, ccT_takeRows_11_1, k_1, kk_8_8, am_kI_x, am_kV_x, am_kI_i, am_nI_i, am_kV_i, am_nV_i, ↓reduceIte, eq_self, if_true, if_false, c_in, c_tn, pn_add, pn_mul, pn_subc, pn_addm, c_le_t, c_le_f, c_lt_t, c_lt_f, c_eq_f, c_eqm, bi_z, bi_1, bi_b, bi_T, bi_F, ite_not, up_eq, up_ne, or_self, or_true, true_or, or_false, false_or, and_true, true_and, and_self, not_true_eq_false, not_false_eq_true, Bool.false_eq_true]
      | succ k ih =>
        intro i hi
        have ih := ih (i + 1) (by omega)
        obtain ⟨b1, b2⟩ := hB (2 * i) (by omega)
        obtain ⟨b3, b4⟩ := hB (2 * i + 1) (by omega)
        rw [ggT_takeRows_8]
        rw [allN_S] at ih
        by_cases h1 : allN (fun i => decide (B (2 * i) ≤ x) && decide (B (2 * i + 1) ≤ y)) i = true
        · rw [bi_t h1]
          rw [h1] at ih
          by_cases h2 : B (2 * i) ≤ x
          · by_cases h3 : B (2 * i + 1) ≤ y
            · rw [bi_t (by simp [h2, h3])] at ih
              simp -implicitDefEqProofs (disch := (first | omega | assumption | exact am_isS_3 | exact am_isS_25 | exact am_isX_356 | exact am_isX_359)) only [ggT_takeRows_0, ggT_takeRows_1, ggT_takeRows_2, ggT_takeRows_3, ggT_takeRows_4, ggT_takeRows_5, ggT_takeRows_6, ggT_takeRows_7, ggT_takeRows_9, ggT_takeRows_10, ggT_takeRows_11, ggT_takeRows_12, ggT_takeRows_13, ggT_takeRows_14, ggT_takeRows_15, ggT_takeRows_16, ggT_takeRows_17, ggT_takeRows_18, ccT_takeRows_10_1, ccT_takeRows_11_1, xT_left, xT_right, b2, b4, am_kI_x, am_kV_x, am_kI_i, am_nI_i, am_kV_i, am_nV_i, ↓reduceIte, eq_self, if_true, if_false, c_in, c_tn, pn_add, pn_mul, pn_subc, pn_addm, c_le_t, c_le_f, c_lt_t, c_lt_f, c_eq_f, c_eqm, bi_z, bi_1, bi_b, bi_T, bi_F, ite_not, up_eq, up_ne, or_self, or_true, true_or, or_false, false_or, and_true, true_and, and_self, not_true_eq_false, not_false_eq_true, Bool.false_eq_true]
              exact ih
            · rw [bi_f (by simp [h3])] at ih
              simp -implicitDefEqProofs (disch := (first | omega | assumption | exact am_isS_3 | exact am_isS_25 | exact am_isX_356 | exact am_isX_359)) only [ggT_takeRows_0, ggT_takeRows_1, ggT_takeRows_2, ggT_takeRows_3, ggT_takeRows_4, ggT_takeRows_5, ggT_takeRows_6, ggT_takeRows_7, ggT_takeRows_9, ggT_takeRows_10, ggT_takeRows_11, ggT_takeRows_12, ggT_takeRows_13, ggT_takeRows_14, ggT_takeRows_15, ggT_takeRows_16, ggT_takeRows_17, ggT_takeRows_18, ccT_takeRows_10_1, ccT_takeRows_11_1, xT_left, xT_right, b2, b4, am_kI_x, am_kV_x, am_kI_i, am_nI_i, am_kV_i, am_nV_i, ↓reduceIte, eq_self, if_true, if_false, c_in, c_tn, pn_add, pn_mul, pn_subc, pn_addm, c_le_t, c_le_f, c_lt_t, c_lt_f, c_eq_f, c_eqm, bi_z, bi_1, bi_b, bi_T, bi_F, ite_not, up_eq, up_ne, or_self, or_true, true_or, or_false, false_or, and_true, true_and, and_self, not_true_eq_false, not_false_eq_true, Bool.false_eq_true]
              exact ih
          · rw [bi_f (by simp [h2])] at ih
            simp -implicitDefEqProofs (disch := (first | omega | assumption | exact am_isS_3 | exact am_isS_25 | exact am_isX_356 | exact am_isX_359)) only [ggT_takeRows_0, ggT_takeRows_1, ggT_takeRows_2, ggT_takeRows_3, ggT_takeRows_4, ggT_takeRows_5, ggT_takeRows_6, ggT_takeRows_7, ggT_takeRows_9, ggT_takeRows_10, ggT_takeRows_11, ggT_takeRows_12, ggT_takeRows_13, ggT_takeRows_14, ggT_takeRows_15, ggT_takeRows_16, ggT_takeRows_17, ggT_takeRows_18, ccT_takeRows_10_1, ccT_takeRows_11_1, xT_left, xT_right, b2, b4, am_kI_x, am_kV_x, am_kI_i, am_nI_i, am_kV_i, am_nV_i, ↓reduceIte, eq_self, if_true, if_false, c_in, c_tn, pn_add, pn_mul, pn_subc, pn_addm, c_le_t, c_le_f, c_lt_t, c_lt_f, c_eq_f, c_eqm, bi_z, bi_1, bi_b, bi_T, bi_F, ite_not, up_eq, up_ne, or_self, or_true, true_or, or_false, false_or, and_true, true_and, and_self, not_true_eq_false, not_false_eq_true, Bool.false_eq_true]
            exact ih
        · rw [bi_f h1]
          rw [bi_f (by simp [h1])] at ih
          simp -implicitDefEqProofs (disch := (first | omega | assumption | exact am_isS_3 | exact am_isS_25 | exact am_isX_356 | exact am_isX_359)) only [ggT_takeRows_0, ggT_takeRows_1, ggT_takeRows_2, ggT_takeRows_3, ggT_takeRows_4, ggT_takeRows_5, ggT_takeRows_6, ggT_takeRows_7, ggT_takeRows_9, ggT_takeRows_10, ggT_takeRows_11, ggT_takeRows_12, ggT_takeRows_13, ggT_takeRows_14, ggT_takeRows_15, ggT_takeRows_16, ggT_takeRows_17, ggT_takeRows_18, ccT_takeRows_10_1, ccT_takeRows_11_1, am_kI_x, am_kV_x, am_kI_i, am_nI_i, am_kV_i, am_nV_i, ↓reduceIte, eq_self, if_true, if_false, c_in, c_tn, pn_add, pn_mul, pn_subc, pn_addm, c_le_t, c_le_f, c_lt_t, c_lt_f, c_eq_f, c_eqm, bi_z, bi_1, bi_b, bi_T, bi_F, ite_not, up_eq, up_ne, or_self, or_true, true_or, or_false, false_or, and_true, true_and, and_self, not_true_eq_false, not_false_eq_true, Bool.false_eq_true]
          exact ih
    have l := l (n / 2) 0 (by omega)
    have el : rowsOK B n x y = allN (fun i => decide (B (2 * i) ≤ x) && decide (B (2 * i + 1) ≤ y)) (n / 2) := by
      unfold rowsOK
      rw [decide_eq_true hq, Bool.true_and]
    rw [el]
    have l : am_go (am_cl (d + 1)) qT_takeRows 8 [.ref 1, .int (Int32.ofNat x), .int (Int32.ofNat y), .int (Int32.ofNat 1), .int (Int32.ofNat (n / 2)), .int (Int32.ofNat 0)] [] h = _ := l
    rw [← l]
    have h0 : n - n / 2 * 2 = 0 := by omega
    have h4 : n ≤ 40 := hq.2
    simp -implicitDefEqProofs (disch := (first | omega | assumption | exact am_isS_3 | exact am_isS_25 | exact am_isX_356 | exact am_isX_359)) only [uT_takeRows, ggT_takeRows_0, ggT_takeRows_1, ggT_takeRows_2, ggT_takeRows_3, ggT_takeRows_4, ggT_takeRows_5, ggT_takeRows_6, ggT_takeRows_7, ggT_takeRows_9, ggT_takeRows_10, ggT_takeRows_11, ggT_takeRows_12, ggT_takeRows_13, ggT_takeRows_14, ggT_takeRows_15, ggT_takeRows_16, ggT_takeRows_17, ggT_takeRows_18, ccT_takeRows_10_1, ccT_takeRows_11_1, e, pn_div, h0, ite_self, am_kI_x, am_kV_x, am_kI_i, am_nI_i, am_kV_i, am_nV_i, ↓reduceIte, eq_self, if_true, if_false, c_in, c_tn, pn_add, pn_mul, pn_subc, pn_addm, c_le_t, c_le_f, c_lt_t, c_lt_f, c_eq_f, c_eqm, bi_z, bi_1, bi_b, bi_T, bi_F, ite_not, up_eq, up_ne, or_self, or_true, true_or, or_false, false_or, and_true, true_and, and_self, not_true_eq_false, not_false_eq_true, Bool.false_eq_true]
  · have el : rowsOK B n x y = false := by
      unfold rowsOK
      rw [decide_eq_false hq, Bool.false_and]
    rw [el, bi_f (by decide), if_neg (by decide)]
    by_cases h0 : n % 2 = 0
    · have h4 : 40 < n := by omega
      simp -implicitDefEqProofs (disch := (first | omega | assumption | exact am_isS_3 | exact am_isS_25 | exact am_isX_356 | exact am_isX_359)) only [uT_takeRows, ggT_takeRows_8, ggT_takeRows_0, ggT_takeRows_1, ggT_takeRows_2, ggT_takeRows_3, ggT_takeRows_4, ggT_takeRows_5, ggT_takeRows_6, ggT_takeRows_7, ggT_takeRows_9, ggT_takeRows_10, ggT_takeRows_11, ggT_takeRows_12, ggT_takeRows_13, ggT_takeRows_14, ggT_takeRows_15, ggT_takeRows_16, ggT_takeRows_17, ggT_takeRows_18, ccT_takeRows_10_1, ccT_takeRows_11_1, e, pn_div, h0, ite_self, k_1, kk_8_8, am_kI_x, am_kV_x, am_kI_i, am_nI_i, am_kV_i, am_nV_i, ↓reduceIte, eq_self, if_true, if_false, c_in, c_tn, pn_add, pn_mul, pn_subc, pn_addm, c_le_t, c_le_f, c_lt_t, c_lt_f, c_eq_f, c_eqm, bi_z, bi_1, bi_b, bi_T, bi_F, ite_not, up_eq, up_ne, or_self, or_true, true_or, or_false, false_or, and_true, true_and, and_self, not_true_eq_false, not_false_eq_true, Bool.false_eq_true]
    · have h1 : n - n / 2 * 2 = 1 := by omega
      simp -implicitDefEqProofs (disch := (first | omega | assumption | exact am_isS_3 | exact am_isS_25 | exact am_isX_356 | exact am_isX_359)) only [uT_takeRows, ggT_takeRows_8, ggT_takeRows_0, ggT_takeRows_1, ggT_takeRows_2, ggT_takeRows_3, ggT_takeRows_4, ggT_takeRows_5, ggT_takeRows_6, ggT_takeRows_7, ggT_takeRows_9, ggT_takeRows_10, ggT_takeRows_11, ggT_takeRows_12, ggT_takeRows_13, ggT_takeRows_14, ggT_takeRows_15, ggT_takeRows_16, ggT_takeRows_17, ggT_takeRows_18, ccT_takeRows_10_1, ccT_takeRows_11_1, e, pn_div, h1, ite_self, k_1, kk_8_8, am_kI_x, am_kV_x, am_kI_i, am_nI_i, am_kV_i, am_nV_i, ↓reduceIte, eq_self, if_true, if_false, c_in, c_tn, pn_add, pn_mul, pn_subc, pn_addm, c_le_t, c_le_f, c_lt_t, c_lt_f, c_eq_f, c_eqm, bi_z, bi_1, bi_b, bi_T, bi_F, ite_not, up_eq, up_ne, or_self, or_true, true_or, or_false, false_or, and_true, true_and, and_self, not_true_eq_false, not_false_eq_true, Bool.false_eq_true]
theorem rR_isFelt {h : am_H} {n : Nat} (hn : n ≤ 400) (e : h.2 373 11 = (Int32.ofNat n)) {B : Nat → Nat} (hB : ∀ i, i < 400 → B i < 256 ∧ h.2 379 i = ((Int32.ofNat (B i))).toInt8.toInt32) (d : Nat) : am_cl (d + 2) qR_isFelt [.ref 373] h = some (.inl (some (bi (rowsOK B n 2 10 = true))), h) := by
  by_cases hq : n % 2 = 0 ∧ n ≤ 40
  · have l : ∀ k i, i + k = n / 2 → (allN (fun i => decide (B (2 * i) ≤ 2) && decide (B (2 * i + 1) ≤ 10)) i = true) → am_go (am_cl (d + 1)) qR_isFelt 5 [.ref 373, .int (Int32.ofNat 1), .int (Int32.ofNat (2 * i))] [] h = some (.inl (some (bi (allN (fun i => decide (B (2 * i) ≤ 2) && decide (B (2 * i + 1) ≤ 10)) (n / 2) = true))), h) := by
      intro k
      induction k with
      | zero =>
        intro i hi h1
        have hi : i = n / 2 := by omega
        subst hi
        rw [bi_t h1, ggR_isFelt_5]
        simp -implicitDefEqProofs (disch := (first | omega | assumption | exact am_isS_3 | exact am_isS_25 | exact am_isX_356 | exact am_isX_359)) only [ggR_isFelt_0, ggR_isFelt_1, ggR_isFelt_2, ggR_isFelt_3, ggR_isFelt_4, ggR_isFelt_6, ggR_isFelt_7, ggR_isFelt_8, ggR_isFelt_9, ggR_isFelt_10, ggR_isFelt_11, ggR_isFelt_12, ccR_isFelt_7_1, ccR_isFelt_8_1, e, am_kI_x, am_kV_x, am_kI_i, am_nI_i, am_kV_i, am_nV_i, ↓reduceIte, eq_self, if_true, if_false, c_in, c_tn, pn_add, pn_mul, pn_subc, pn_addm, c_le_t, c_le_f, c_lt_t, c_lt_f, c_eq_f, c_eqm, bi_z, bi_1, bi_b, bi_T, bi_F, ite_not, up_eq, up_ne, or_self, or_true, true_or, or_false, false_or, and_true, true_and, and_self, not_true_eq_false, not_false_eq_true, Bool.false_eq_true]
      | succ k ih =>
        intro i hi h1
        obtain ⟨b1, b2⟩ := hB (2 * i) (by omega)
        obtain ⟨b3, b4⟩ := hB (2 * i + 1) (by omega)
        have s1 := sb_in (b := B (2 * i)) (k := 2) b1 (by omega)
        have s2 := sb_in (b := B (2 * i + 1)) (k := 10) b3 (by omega)
        by_cases h2 : B (2 * i) ≤ 2
        · by_cases h3 : B (2 * i + 1) ≤ 10
          · have ih := ih (i + 1) (by omega) (by rw [allN_S, h1]; simp [h2, h3])
            rw [show 2 * (i + 1) = 2 * i + 2 by omega] at ih
            rw [ggR_isFelt_5]
            simp -implicitDefEqProofs (disch := (first | omega | assumption | exact am_isS_3 | exact am_isS_25 | exact am_isX_356 | exact am_isX_359)) only [ggR_isFelt_0, ggR_isFelt_1, ggR_isFelt_2, ggR_isFelt_3, ggR_isFelt_4, ggR_isFelt_6, ggR_isFelt_7, ggR_isFelt_8, ggR_isFelt_9, ggR_isFelt_10, ggR_isFelt_11, ggR_isFelt_12, ccR_isFelt_7_1, ccR_isFelt_8_1, e, rR_in, b2, b4, s1, s2, h2, h3, ite_self, am_kI_x, am_kV_x, am_kI_i, am_nI_i, am_kV_i, am_nV_i, ↓reduceIte, eq_self, if_true, if_false, c_in, c_tn, pn_add, pn_mul, pn_subc, pn_addm, c_le_t, c_le_f, c_lt_t, c_lt_f, c_eq_f, c_eqm, bi_z, bi_1, bi_b, bi_T, bi_F, ite_not, up_eq, up_ne, or_self, or_true, true_or, or_false, false_or, and_true, true_and, and_self, not_true_eq_false, not_false_eq_true, Bool.false_eq_true]
            exact ih
          · rw [bi_f (by rw [allN_f (i := i) (by omega) (by simp [h3])]; decide), ggR_isFelt_5]
            simp -implicitDefEqProofs (disch := (first | omega | assumption | exact am_isS_3 | exact am_isS_25 | exact am_isX_356 | exact am_isX_359)) only [ggR_isFelt_5, ggR_isFelt_0, ggR_isFelt_1, ggR_isFelt_2, ggR_isFelt_3, ggR_isFelt_4, ggR_isFelt_6, ggR_isFelt_7, ggR_isFelt_8, ggR_isFelt_9, ggR_isFelt_10, ggR_isFelt_11, ggR_isFelt_12, ccR_isFelt_7_1, ccR_isFelt_8_1, e, rR_in, b2, b4, s1, s2, h2, h3, ite_self, am_kI_x, am_kV_x, am_kI_i, am_nI_i, am_kV_i, am_nV_i, ↓reduceIte, eq_self, if_true, if_false, c_in, c_tn, pn_add, pn_mul, pn_subc, pn_addm, c_le_t, c_le_f, c_lt_t, c_lt_f, c_eq_f, c_eqm, bi_z, bi_1, bi_b, bi_T, bi_F, ite_not, up_eq, up_ne, or_self, or_true, true_or, or_false, false_or, and_true, true_and, and_self, not_true_eq_false, not_false_eq_true, Bool.false_eq_true]
        · rw [bi_f (by rw [allN_f (i := i) (by omega) (by simp [h2])]; decide), ggR_isFelt_5]
          simp -implicitDefEqProofs (disch := (first | omega | assumption | exact am_isS_3 | exact am_isS_25 | exact am_isX_356 | exact am_isX_359)) only [ggR_isFelt_5, ggR_isFelt_0, ggR_isFelt_1, ggR_isFelt_2, ggR_isFelt_3, ggR_isFelt_4, ggR_isFelt_6, ggR_isFelt_7, ggR_isFelt_8, ggR_isFelt_9, ggR_isFelt_10, ggR_isFelt_11, ggR_isFelt_12, ccR_isFelt_7_1, ccR_isFelt_8_1, e, rR_in, b2, b4, s1, s2, h2, ite_self, am_kI_x, am_kV_x, am_kI_i, am_nI_i, am_kV_i, am_nV_i, ↓reduceIte, eq_self, if_true, if_false, c_in, c_tn, pn_add, pn_mul, pn_subc, pn_addm, c_le_t, c_le_f, c_lt_t, c_lt_f, c_eq_f, c_eqm, bi_z, bi_1, bi_b, bi_T, bi_F, ite_not, up_eq, up_ne, or_self, or_true, true_or, or_false, false_or, and_true, true_and, and_self, not_true_eq_false, not_false_eq_true, Bool.false_eq_true]
    have l := l (n / 2) 0 (by omega) rfl
    have el : rowsOK B n 2 10 = allN (fun i => decide (B (2 * i) ≤ 2) && decide (B (2 * i + 1) ≤ 10)) (n / 2) := by
      unfold rowsOK
      rw [decide_eq_true hq, Bool.true_and]
    rw [el, ← l]
    have h0 : n - n / 2 * 2 = 0 := by omega
    have h4 : n ≤ 40 := hq.2
    simp -implicitDefEqProofs (disch := (first | omega | assumption | exact am_isS_3 | exact am_isS_25 | exact am_isX_356 | exact am_isX_359)) only [uR_isFelt, ggR_isFelt_0, ggR_isFelt_1, ggR_isFelt_2, ggR_isFelt_3, ggR_isFelt_4, ggR_isFelt_6, ggR_isFelt_7, ggR_isFelt_8, ggR_isFelt_9, ggR_isFelt_10, ggR_isFelt_11, ggR_isFelt_12, ccR_isFelt_7_1, ccR_isFelt_8_1, e, pn_div, h0, ite_self, am_kI_x, am_kV_x, am_kI_i, am_nI_i, am_kV_i, am_nV_i, ↓reduceIte, eq_self, if_true, if_false, c_in, c_tn, pn_add, pn_mul, pn_subc, pn_addm, c_le_t, c_le_f, c_lt_t, c_lt_f, c_eq_f, c_eqm, bi_z, bi_1, bi_b, bi_T, bi_F, ite_not, up_eq, up_ne, or_self, or_true, true_or, or_false, false_or, and_true, true_and, and_self, not_true_eq_false, not_false_eq_true, Bool.false_eq_true]
  · have el : rowsOK B n 2 10 = false := by
      unfold rowsOK
      rw [decide_eq_false hq, Bool.false_and]
    rw [el, bi_f (by decide)]
    by_cases hz : n = 0
    · omega
    by_cases h0 : n % 2 = 0
    · have h4 : 40 < n := by omega
      simp -implicitDefEqProofs (disch := (first | omega | assumption | exact am_isS_3 | exact am_isS_25 | exact am_isX_356 | exact am_isX_359)) only [uR_isFelt, ggR_isFelt_5, ggR_isFelt_0, ggR_isFelt_1, ggR_isFelt_2, ggR_isFelt_3, ggR_isFelt_4, ggR_isFelt_6, ggR_isFelt_7, ggR_isFelt_8, ggR_isFelt_9, ggR_isFelt_10, ggR_isFelt_11, ggR_isFelt_12, ccR_isFelt_7_1, ccR_isFelt_8_1, e, pn_div, h0, ite_self, am_kI_x, am_kV_x, am_kI_i, am_nI_i, am_kV_i, am_nV_i, ↓reduceIte, eq_self, if_true, if_false, c_in, c_tn, pn_add, pn_mul, pn_subc, pn_addm, c_le_t, c_le_f, c_lt_t, c_lt_f, c_eq_f, c_eqm, bi_z, bi_1, bi_b, bi_T, bi_F, ite_not, up_eq, up_ne, or_self, or_true, true_or, or_false, false_or, and_true, true_and, and_self, not_true_eq_false, not_false_eq_true, Bool.false_eq_true]
    · have h1 : n - n / 2 * 2 = 1 := by omega
      simp -implicitDefEqProofs (disch := (first | omega | assumption | exact am_isS_3 | exact am_isS_25 | exact am_isX_356 | exact am_isX_359)) only [uR_isFelt, ggR_isFelt_5, ggR_isFelt_0, ggR_isFelt_1, ggR_isFelt_2, ggR_isFelt_3, ggR_isFelt_4, ggR_isFelt_6, ggR_isFelt_7, ggR_isFelt_8, ggR_isFelt_9, ggR_isFelt_10, ggR_isFelt_11, ggR_isFelt_12, ccR_isFelt_7_1, ccR_isFelt_8_1, e, pn_div, h1, ite_self, am_kI_x, am_kV_x, am_kI_i, am_nI_i, am_kV_i, am_nV_i, ↓reduceIte, eq_self, if_true, if_false, c_in, c_tn, pn_add, pn_mul, pn_subc, pn_addm, c_le_t, c_le_f, c_lt_t, c_lt_f, c_eq_f, c_eqm, bi_z, bi_1, bi_b, bi_T, bi_F, ite_not, up_eq, up_ne, or_self, or_true, true_or, or_false, false_or, and_true, true_and, and_self, not_true_eq_false, not_false_eq_true, Bool.false_eq_true]
theorem rR_isLed {h : am_H} {n : Nat} (hn : n ≤ 400) (e : h.2 373 11 = (Int32.ofNat n)) {B : Nat → Nat} (hB : ∀ i, i < 400 → B i < 256 ∧ h.2 379 i = ((Int32.ofNat (B i))).toInt8.toInt32) (d : Nat) : am_cl (d + 3) qR_isLed [.ref 373] h = some (.inl (some (bi (rowsOK B n 7 255 = true))), h) := by
  by_cases hq : n % 2 = 0 ∧ n ≤ 40
  · have l : ∀ k i, i + k = n / 2 → (allN (fun i => decide (B (2 * i) ≤ 7) && decide (B (2 * i + 1) ≤ 255)) i = true) → am_go (am_cl (d + 2)) qR_isLed 5 [.ref 373, .int (Int32.ofNat 1), .int (Int32.ofNat (2 * i))] [] h = some (.inl (some (bi (allN (fun i => decide (B (2 * i) ≤ 7) && decide (B (2 * i + 1) ≤ 255)) (n / 2) = true))), h) := by
      intro k
      induction k with
      | zero =>
        intro i hi h1
        have hi : i = n / 2 := by omega
        subst hi
        rw [bi_t h1, ggR_isLed_5]
        simp -implicitDefEqProofs (disch := (first | omega | assumption | exact am_isS_3 | exact am_isS_25 | exact am_isX_356 | exact am_isX_359)) only [ggR_isLed_0, ggR_isLed_1, ggR_isLed_2, ggR_isLed_3, ggR_isLed_4, ggR_isLed_6, ggR_isLed_7, ggR_isLed_8, ggR_isLed_9, ggR_isLed_10, ggR_isLed_11, ccR_isLed_7_1, e, am_kI_x, am_kV_x, am_kI_i, am_nI_i, am_kV_i, am_nV_i, ↓reduceIte, eq_self, if_true, if_false, c_in, c_tn, pn_add, pn_mul, pn_subc, pn_addm, c_le_t, c_le_f, c_lt_t, c_lt_f, c_eq_f, c_eqm, bi_z, bi_1, bi_b, bi_T, bi_F, ite_not, up_eq, up_ne, or_self, or_true, true_or, or_false, false_or, and_true, true_and, and_self, not_true_eq_false, not_false_eq_true, Bool.false_eq_true]
      | succ k ih =>
        intro i hi h1
        obtain ⟨b1, b2⟩ := hB (2 * i) (by omega)
        obtain ⟨b3, b4⟩ := hB (2 * i + 1) (by omega)
        have s1 := sb_in (b := B (2 * i)) (k := 7) b1 (by omega)
        have h3 : B (2 * i + 1) ≤ 255 := by omega
        by_cases h2 : B (2 * i) ≤ 7
        · have ih := ih (i + 1) (by omega) (by rw [allN_S, h1]; simp [h2, h3])
          rw [show 2 * (i + 1) = 2 * i + 2 by omega] at ih
          rw [ggR_isLed_5]
          simp -implicitDefEqProofs (disch := (first | omega | assumption | exact am_isS_3 | exact am_isS_25 | exact am_isX_356 | exact am_isX_359)) only [ggR_isLed_0, ggR_isLed_1, ggR_isLed_2, ggR_isLed_3, ggR_isLed_4, ggR_isLed_6, ggR_isLed_7, ggR_isLed_8, ggR_isLed_9, ggR_isLed_10, ggR_isLed_11, ccR_isLed_7_1, e, rR_noThing, b2, s1, h2, ite_self, am_kI_x, am_kV_x, am_kI_i, am_nI_i, am_kV_i, am_nV_i, ↓reduceIte, eq_self, if_true, if_false, c_in, c_tn, pn_add, pn_mul, pn_subc, pn_addm, c_le_t, c_le_f, c_lt_t, c_lt_f, c_eq_f, c_eqm, bi_z, bi_1, bi_b, bi_T, bi_F, ite_not, up_eq, up_ne, or_self, or_true, true_or, or_false, false_or, and_true, true_and, and_self, not_true_eq_false, not_false_eq_true, Bool.false_eq_true]
          exact ih
        · rw [bi_f (by rw [allN_f (i := i) (by omega) (by simp [h2])]; decide), ggR_isLed_5]
          simp -implicitDefEqProofs (disch := (first | omega | assumption | exact am_isS_3 | exact am_isS_25 | exact am_isX_356 | exact am_isX_359)) only [ggR_isLed_5, ggR_isLed_0, ggR_isLed_1, ggR_isLed_2, ggR_isLed_3, ggR_isLed_4, ggR_isLed_6, ggR_isLed_7, ggR_isLed_8, ggR_isLed_9, ggR_isLed_10, ggR_isLed_11, ccR_isLed_7_1, e, rR_noThing, b2, s1, h2, ite_self, am_kI_x, am_kV_x, am_kI_i, am_nI_i, am_kV_i, am_nV_i, ↓reduceIte, eq_self, if_true, if_false, c_in, c_tn, pn_add, pn_mul, pn_subc, pn_addm, c_le_t, c_le_f, c_lt_t, c_lt_f, c_eq_f, c_eqm, bi_z, bi_1, bi_b, bi_T, bi_F, ite_not, up_eq, up_ne, or_self, or_true, true_or, or_false, false_or, and_true, true_and, and_self, not_true_eq_false, not_false_eq_true, Bool.false_eq_true]
    have l := l (n / 2) 0 (by omega) rfl
    have el : rowsOK B n 7 255 = allN (fun i => decide (B (2 * i) ≤ 7) && decide (B (2 * i + 1) ≤ 255)) (n / 2) := by
      unfold rowsOK
      rw [decide_eq_true hq, Bool.true_and]
    rw [el, ← l]
    have h0 : n - n / 2 * 2 = 0 := by omega
    have h4 : n ≤ 40 := hq.2
    simp -implicitDefEqProofs (disch := (first | omega | assumption | exact am_isS_3 | exact am_isS_25 | exact am_isX_356 | exact am_isX_359)) only [uR_isLed, ggR_isLed_0, ggR_isLed_1, ggR_isLed_2, ggR_isLed_3, ggR_isLed_4, ggR_isLed_6, ggR_isLed_7, ggR_isLed_8, ggR_isLed_9, ggR_isLed_10, ggR_isLed_11, ccR_isLed_7_1, e, pn_div, h0, ite_self, am_kI_x, am_kV_x, am_kI_i, am_nI_i, am_kV_i, am_nV_i, ↓reduceIte, eq_self, if_true, if_false, c_in, c_tn, pn_add, pn_mul, pn_subc, pn_addm, c_le_t, c_le_f, c_lt_t, c_lt_f, c_eq_f, c_eqm, bi_z, bi_1, bi_b, bi_T, bi_F, ite_not, up_eq, up_ne, or_self, or_true, true_or, or_false, false_or, and_true, true_and, and_self, not_true_eq_false, not_false_eq_true, Bool.false_eq_true]
  · have el : rowsOK B n 7 255 = false := by
      unfold rowsOK
      rw [decide_eq_false hq, Bool.false_and]
    rw [el, bi_f (by decide)]
    by_cases hz : n = 0
    · omega
    by_cases h0 : n % 2 = 0
    · have h4 : 40 < n := by omega
      simp -implicitDefEqProofs (disch := (first | omega | assumption | exact am_isS_3 | exact am_isS_25 | exact am_isX_356 | exact am_isX_359)) only [uR_isLed, ggR_isLed_5, ggR_isLed_0, ggR_isLed_1, ggR_isLed_2, ggR_isLed_3, ggR_isLed_4, ggR_isLed_6, ggR_isLed_7, ggR_isLed_8, ggR_isLed_9, ggR_isLed_10, ggR_isLed_11, ccR_isLed_7_1, e, pn_div, h0, ite_self, am_kI_x, am_kV_x, am_kI_i, am_nI_i, am_kV_i, am_nV_i, ↓reduceIte, eq_self, if_true, if_false, c_in, c_tn, pn_add, pn_mul, pn_subc, pn_addm, c_le_t, c_le_f, c_lt_t, c_lt_f, c_eq_f, c_eqm, bi_z, bi_1, bi_b, bi_T, bi_F, ite_not, up_eq, up_ne, or_self, or_true, true_or, or_false, false_or, and_true, true_and, and_self, not_true_eq_false, not_false_eq_true, Bool.false_eq_true]
    · have h1 : n - n / 2 * 2 = 1 := by omega
      simp -implicitDefEqProofs (disch := (first | omega | assumption | exact am_isS_3 | exact am_isS_25 | exact am_isX_356 | exact am_isX_359)) only [uR_isLed, ggR_isLed_5, ggR_isLed_0, ggR_isLed_1, ggR_isLed_2, ggR_isLed_3, ggR_isLed_4, ggR_isLed_6, ggR_isLed_7, ggR_isLed_8, ggR_isLed_9, ggR_isLed_10, ggR_isLed_11, ccR_isLed_7_1, e, pn_div, h1, ite_self, am_kI_x, am_kV_x, am_kI_i, am_nI_i, am_kV_i, am_nV_i, ↓reduceIte, eq_self, if_true, if_false, c_in, c_tn, pn_add, pn_mul, pn_subc, pn_addm, c_le_t, c_le_f, c_lt_t, c_lt_f, c_eq_f, c_eqm, bi_z, bi_1, bi_b, bi_T, bi_F, ite_not, up_eq, up_ne, or_self, or_true, true_or, or_false, false_or, and_true, true_and, and_self, not_true_eq_false, not_false_eq_true, Bool.false_eq_true]
/-- both objects once a call has used the tape up, rows being told -/
def usedC (h : am_H) (m : Nat) : am_H := am_up (am_up h 1 2 (Int32.ofNat m)) 1 1 (Int32.ofNat 0)
def usedR (h : am_H) (n : Nat) : am_H := am_up (am_up (am_up (am_up h 373 0 (Int32.ofNat 0)) 373 11 (Int32.ofNat n)) 373 9 (Int32.ofNat 0)) 373 10 (Int32.ofNat 0)
theorem rR_uses {h : am_H} {n : Nat} (e : h.2 373 9 = (Int32.ofNat n)) (d : Nat) : am_cl (d + 1) qR_uses [.ref 373] h = some (.inl none, usedR h n) := by
  unfold usedR
  simp -implicitDefEqProofs (disch := (first | omega | assumption | exact am_isS_3 | exact am_isS_25 | exact am_isX_356 | exact am_isX_359)) only [uR_uses, ggR_uses_0, e, am_kI_x, am_kV_x, am_kI_i, am_nI_i, am_kV_i, am_nV_i, ↓reduceIte, eq_self, if_true, if_false, c_in, c_tn, pn_add, pn_mul, pn_subc, pn_addm, c_le_t, c_le_f, c_lt_t, c_lt_f, c_eq_f, c_eqm, bi_z, bi_1, bi_b, bi_T, bi_F, ite_not, up_eq, up_ne, or_self, or_true, true_or, or_false, false_or, and_true, true_and, and_self, not_true_eq_false, not_false_eq_true, Bool.false_eq_true]
theorem J2.used {hC hR : am_H} (J : J2 hC hR) (m n : Nat) : J2 (usedC hC m) (usedR hR n) := by
  obtain ⟨-, ⟨l, hl, e1, e2, eb⟩, -⟩ := id J
  unfold usedC usedR
  exact J.tape ⟨0, by omega, up_eq rfl rfl, by simp (disch := omega) only [up_ne, up_eq], fun i hi => by simp (disch := omega) only [up_ne]; exact eb i hi⟩ (fun p q1 q2 => by rw [up_o q1, up_o q1]) (fun p q1 q2 q3 => by rw [up_o q1, up_o q1, up_o q1, up_o q1]) (fun i hi => by simp (disch := omega) only [up_ne])
theorem usedC_o {h : am_H} {m p : Nat} (hp : p ≠ 1) : (usedC h m).2 p = h.2 p := by unfold usedC; rw [up_o hp, up_o hp]
theorem usedR_o {h : am_H} {m p : Nat} (hp : p ≠ 373) : (usedR h m).2 p = h.2 p := by unfold usedR; rw [up_o hp, up_o hp, up_o hp, up_o hp]
theorem usedC_2 {h : am_H} {m : Nat} : (usedC h m).2 1 2 = (Int32.ofNat m) := by unfold usedC; simp (disch := omega) only [up_ne, up_eq]
theorem usedR_11 {h : am_H} {n : Nat} : (usedR h n).2 373 11 = (Int32.ofNat n) := by unfold usedR; simp (disch := omega) only [up_ne, up_eq]
theorem usedR_0 {h : am_H} {n : Nat} : (usedR h n).2 373 0 = (Int32.ofNat 0) := by unfold usedR; simp (disch := omega) only [up_ne, up_eq]
theorem RelS.used {h : am_H} {W : Nat → Int32} {N G m : Nat} (R : RelS h 3 W N G) : RelS (usedC h m) 3 W N G := R.frame (fun p h1 h2 => usedC_o (by omega))
