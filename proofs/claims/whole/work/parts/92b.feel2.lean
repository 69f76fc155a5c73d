/-! what fits, likely, odds, what to feel -/
def felt (W : Nat → Int32) (a t : Nat) : Int32 := if a = 0 then W (7 + 4 * t + 1) else if a = 1 then W (7 + 4 * t + 2) else W (7 + 4 * t + 3) / (Int32.ofNat 10)
theorem xE_feltOf {h : am_H} {W : Nat → Int32} {N G a t : Nat} (R : RelS h 3 W N G) (ha : a ≤ 2) (ht : t < 9) (d : Nat) : am_cl (d + 1) qE_feltOf [.ref 3, .int (Int32.ofNat a), .int (Int32.ofNat t)] h = some (.inl (some (felt W a t)), h) := by
  have r11 := R.2.2.2.2.2.2.2.2.2.2.1
  unfold felt
  rcases (show a = 0 ∨ a = 1 ∨ a = 2 by omega) with rfl | rfl | rfl
  · simp -implicitDefEqProofs (disch := (first | omega | assumption | exact am_isS_3 | exact am_isS_25 | exact am_isX_356 | exact am_isX_359)) only [uE_feltOf, ggE_feltOf_0, w8_0, w8_1, w8_2, w8_3, ggE_feltOf_1, ggE_feltOf_2, ggE_feltOf_3, r11, am_kI_x, am_kV_x, am_kI_i, am_nI_i, am_kV_i, am_nV_i, ↓reduceIte, eq_self, if_true, if_false, c_in, c_tn, pn_add, pn_mul, pn_subc, pn_addm, c_le_t, c_le_f, c_lt_t, c_lt_f, c_eq_f, c_eqm, bi_z, bi_1, bi_b, bi_T, bi_F, ite_not, up_eq, up_ne, or_self, or_true, true_or, or_false, false_or, and_true, true_and, and_self, not_true_eq_false, not_false_eq_true, Bool.false_eq_true]
  · simp -implicitDefEqProofs (disch := (first | omega | assumption | exact am_isS_3 | exact am_isS_25 | exact am_isX_356 | exact am_isX_359)) only [uE_feltOf, ggE_feltOf_0, w8_0, w8_1, w8_2, w8_3, ggE_feltOf_1, ggE_feltOf_2, ggE_feltOf_3, r11, am_kI_x, am_kV_x, am_kI_i, am_nI_i, am_kV_i, am_nV_i, ↓reduceIte, eq_self, if_true, if_false, c_in, c_tn, pn_add, pn_mul, pn_subc, pn_addm, c_le_t, c_le_f, c_lt_t, c_lt_f, c_eq_f, c_eqm, bi_z, bi_1, bi_b, bi_T, bi_F, ite_not, up_eq, up_ne, or_self, or_true, true_or, or_false, false_or, and_true, true_and, and_self, not_true_eq_false, not_false_eq_true, Bool.false_eq_true]
    rfl
  · simp -implicitDefEqProofs (disch := (first | omega | assumption | exact am_isS_3 | exact am_isS_25 | exact am_isX_356 | exact am_isX_359)) only [uE_feltOf, ggE_feltOf_0, w8_0, w8_1, w8_2, w8_3, ggE_feltOf_1, ggE_feltOf_2, ggE_feltOf_3, r11, am_kI_x, am_kV_x, am_kI_i, am_nI_i, am_kV_i, am_nV_i, ↓reduceIte, eq_self, if_true, if_false, c_in, c_tn, pn_add, pn_mul, pn_subc, pn_addm, c_le_t, c_le_f, c_lt_t, c_lt_f, c_eq_f, c_eqm, bi_z, bi_1, bi_b, bi_T, bi_F, ite_not, up_eq, up_ne, or_self, or_true, true_or, or_false, false_or, and_true, true_and, and_self, not_true_eq_false, not_false_eq_true, Bool.false_eq_true]
    rfl
theorem rR_feltOf {a t : Nat} (ha : a ≤ 2) (ht : t < 9) (d : Nat) (h : am_H) : am_cl (d + 3) qR_feltOf [.ref 373, .int (Int32.ofNat t), .int (Int32.ofNat a)] h = some (.inl (some (felt (h.2 374) a t)), h) := by
  unfold felt
  rcases (show a = 0 ∨ a = 1 ∨ a = 2 by omega) with rfl | rfl | rfl
  · simp -implicitDefEqProofs (disch := (first | omega | assumption | exact am_isS_3 | exact am_isS_25 | exact am_isX_356 | exact am_isX_359)) only [uR_feltOf, ggR_feltOf_0, ggR_feltOf_1, ggR_feltOf_2, ggR_feltOf_3, ggR_feltOf_4, ggR_feltOf_5, ccR_feltOf_1_1, ccR_feltOf_3_1, ccR_feltOf_4_1, rR_ofThing, am_kI_x, am_kV_x, am_kI_i, am_nI_i, am_kV_i, am_nV_i, ↓reduceIte, eq_self, if_true, if_false, c_in, c_tn, pn_add, pn_mul, pn_subc, pn_addm, c_le_t, c_le_f, c_lt_t, c_lt_f, c_eq_f, c_eqm, bi_z, bi_1, bi_b, bi_T, bi_F, ite_not, up_eq, up_ne, or_self, or_true, true_or, or_false, false_or, and_true, true_and, and_self, not_true_eq_false, not_false_eq_true, Bool.false_eq_true]
  · simp -implicitDefEqProofs (disch := (first | omega | assumption | exact am_isS_3 | exact am_isS_25 | exact am_isX_356 | exact am_isX_359)) only [uR_feltOf, ggR_feltOf_0, ggR_feltOf_1, ggR_feltOf_2, ggR_feltOf_3, ggR_feltOf_4, ggR_feltOf_5, ccR_feltOf_1_1, ccR_feltOf_3_1, ccR_feltOf_4_1, rR_ofThing, am_kI_x, am_kV_x, am_kI_i, am_nI_i, am_kV_i, am_nV_i, ↓reduceIte, eq_self, if_true, if_false, c_in, c_tn, pn_add, pn_mul, pn_subc, pn_addm, c_le_t, c_le_f, c_lt_t, c_lt_f, c_eq_f, c_eqm, bi_z, bi_1, bi_b, bi_T, bi_F, ite_not, up_eq, up_ne, or_self, or_true, true_or, or_false, false_or, and_true, true_and, and_self, not_true_eq_false, not_false_eq_true, Bool.false_eq_true]
    rfl
  · simp -implicitDefEqProofs (disch := (first | omega | assumption | exact am_isS_3 | exact am_isS_25 | exact am_isX_356 | exact am_isX_359)) only [uR_feltOf, ggR_feltOf_0, ggR_feltOf_1, ggR_feltOf_2, ggR_feltOf_3, ggR_feltOf_4, ggR_feltOf_5, ccR_feltOf_1_1, ccR_feltOf_3_1, ccR_feltOf_4_1, rR_ofThing, am_kI_x, am_kV_x, am_kI_i, am_nI_i, am_kV_i, am_nV_i, ↓reduceIte, eq_self, if_true, if_false, c_in, c_tn, pn_add, pn_mul, pn_subc, pn_addm, c_le_t, c_le_f, c_lt_t, c_lt_f, c_eq_f, c_eqm, bi_z, bi_1, bi_b, bi_T, bi_F, ite_not, up_eq, up_ne, or_self, or_true, true_or, or_false, false_or, and_true, true_and, and_self, not_true_eq_false, not_false_eq_true, Bool.false_eq_true]
    rfl
def fitR (W : Nat → Int32) (B : Nat → Nat) (t i : Nat) : Bool := decide (am_abs (felt W (B (2 * i)) t - (Int32.ofNat (B (2 * i + 1)))) ≤ (Int32.ofNat 1))
def fitT (W : Nat → Int32) (B : Nat → Nat) (n t : Nat) : Bool := decide (¬ wt W t ≤ (Int32.ofNat 0)) && allN (fitR W B t) n
/-- rows of feels are told -/
def told (hC hR : am_H) (B : Nat → Nat) (n : Nat) : Prop := n ≤ 20 ∧ hC.2 1 2 = (Int32.ofNat n) ∧ hR.2 373 11 = (Int32.ofNat (2 * n)) ∧ bts hC hR B ∧ ∀ i, i < n → B (2 * i) ≤ 2 ∧ B (2 * i + 1) ≤ 10
theorem xE_fitsRows {hC hR : am_H} {W : Nat → Int32} {N G n t : Nat} {B : Nat → Nat} (R : RelS hC 3 W N G) (T : told hC hR B n) (ht : t < 9) (d : Nat) : am_cl (d + 2) qE_fitsRows [.ref 3, .ref 1, .int (Int32.ofNat t)] hC = some (.inl (some (bi (allN (fitR W B t) n = true))), hC) := by
  obtain ⟨hn, e1, -, hB, hr⟩ := T
  have l : ∀ k i, i + k = n → allN (fitR W B t) i = true → am_go (am_cl (d + 1)) qE_fitsRows 1 [.ref 3, .ref 1, .int (Int32.ofNat t), .int (Int32.ofNat i)] [] hC = some (.inl (some (bi (allN (fitR W B t) n = true))), hC) := by
    intro k
    induction k with
    | zero =>
      intro i hi h1
      have hi : i = n := by omega
      subst hi
      rw [bi_t h1, ggE_fitsRows_1]
      simp -implicitDefEqProofs (disch := (first | omega | assumption | exact am_isS_3 | exact am_isS_25 | exact am_isX_356 | exact am_isX_359)) only [ggE_fitsRows_0, ggE_fitsRows_2, ggE_fitsRows_3, ggE_fitsRows_4, ggE_fitsRows_5, ccE_fitsRows_2_3, ccE_fitsRows_2_2, ccE_fitsRows_2_1, e1, am_kI_x, am_kV_x, am_kI_i, am_nI_i, am_kV_i, am_nV_i, ↓reduceIte, eq_self, if_true, if_false, c_in, c_tn, pn_add, pn_mul, pn_subc, pn_addm, c_le_t, c_le_f, c_lt_t, c_lt_f, c_eq_f, c_eqm, bi_z, bi_1, bi_b, bi_T, bi_F, ite_not, up_eq, up_ne, or_self, or_true, true_or, or_false, false_or, and_true, true_and, and_self, not_true_eq_false, not_false_eq_true, Bool.false_eq_true]
    | succ k ih =>
      intro i hi h1
      obtain ⟨-, b2, -⟩ := hB (2 * i) (by omega)
      obtain ⟨-, b4, -⟩ := hB (2 * i + 1) (by omega)
      obtain ⟨c1, c2⟩ := hr i (by omega)
      have ef := fun d => xE_feltOf R c1 ht d
      by_cases hq : am_abs (felt W (B (2 * i)) t - (Int32.ofNat (B (2 * i + 1)))) ≤ (Int32.ofNat 1)
      · have ih := ih (i + 1) (by omega) (by rw [allN_S, h1]; exact decide_eq_true hq)
        rw [ggE_fitsRows_1]
        simp -implicitDefEqProofs (disch := (first | omega | assumption | exact am_isS_3 | exact am_isS_25 | exact am_isX_356 | exact am_isX_359)) only [ggE_fitsRows_0, ggE_fitsRows_2, ggE_fitsRows_3, ggE_fitsRows_4, ggE_fitsRows_5, ccE_fitsRows_2_3, ccE_fitsRows_2_2, ccE_fitsRows_2_1, e1, xT_left, xT_right, b2, b4, ef, hq, am_kI_x, am_kV_x, am_kI_i, am_nI_i, am_kV_i, am_nV_i, ↓reduceIte, eq_self, if_true, if_false, c_in, c_tn, pn_add, pn_mul, pn_subc, pn_addm, c_le_t, c_le_f, c_lt_t, c_lt_f, c_eq_f, c_eqm, bi_z, bi_1, bi_b, bi_T, bi_F, ite_not, up_eq, up_ne, or_self, or_true, true_or, or_false, false_or, and_true, true_and, and_self, not_true_eq_false, not_false_eq_true, Bool.false_eq_true]
        exact ih
      · rw [bi_f (by rw [allN_f (i := i) (by omega) (decide_eq_false hq)]; decide), ggE_fitsRows_1]
        simp -implicitDefEqProofs (disch := (first | omega | assumption | exact am_isS_3 | exact am_isS_25 | exact am_isX_356 | exact am_isX_359)) only [ggE_fitsRows_0, ggE_fitsRows_2, ggE_fitsRows_3, ggE_fitsRows_4, ggE_fitsRows_5, ccE_fitsRows_2_3, ccE_fitsRows_2_2, ccE_fitsRows_2_1, e1, xT_left, xT_right, b2, b4, ef, hq, am_kI_x, am_kV_x, am_kI_i, am_nI_i, am_kV_i, am_nV_i, ↓reduceIte, eq_self, if_true, if_false, c_in, c_tn, pn_add, pn_mul, pn_subc, pn_addm, c_le_t, c_le_f, c_lt_t, c_lt_f, c_eq_f, c_eqm, bi_z, bi_1, bi_b, bi_T, bi_F, ite_not, up_eq, up_ne, or_self, or_true, true_or, or_false, false_or, and_true, true_and, and_self, not_true_eq_false, not_false_eq_true, Bool.false_eq_true]
  rw [uE_fitsRows, ggE_fitsRows_0]
  exact l n 0 (by omega) rfl
theorem xE_fitting {hC hR : am_H} {W : Nat → Int32} {N G n : Nat} {B : Nat → Nat} (R : RelS hC 3 W N G) (T : told hC hR B n) (d : Nat) : am_cl (d + 3) qE_fitting [.ref 3, .ref 1] hC = some (.inl (some (bset (fitT W B n) 9)), hC) := by
  rw [uE_fitting, ggE_fitting_0]
  refine lp (N := 9) (L := fun c b => [.ref 3, .ref 1, .int b, .int (Int32.ofNat c)]) (H := fun _ => hC) (R := fun b => some (.inl (some (b)), hC)) _ (fun c b hc => ?_) (fun b => ?_) 9 0 (Int32.ofNat 0) (by omega)
  · rw [ggE_fitting_1]
    have ew := wt_rel R (t := c) (by omega)
    have ef := fun d => xE_fitsRows R T (t := c) (by omega) d
    by_cases h1 : wt W c ≤ (Int32.ofNat 0)
    · have hf : fitT W B n c = false := by unfold fitT; rw [decide_eq_false (fun q => q h1), Bool.false_and]
      simp -implicitDefEqProofs (disch := (first | omega | assumption | exact am_isS_3 | exact am_isS_25 | exact am_isX_356 | exact am_isX_359)) only [ggE_fitting_0, ggE_fitting_2, ggE_fitting_3, ggE_fitting_4, ggE_fitting_5, ggE_fitting_6, ccE_fitting_3_1, ew, h1, hf, am_kI_x, am_kV_x, am_kI_i, am_nI_i, am_kV_i, am_nV_i, ↓reduceIte, eq_self, if_true, if_false, c_in, c_tn, pn_add, pn_mul, pn_subc, pn_addm, c_le_t, c_le_f, c_lt_t, c_lt_f, c_eq_f, c_eqm, bi_z, bi_1, bi_b, bi_T, bi_F, ite_not, up_eq, up_ne, or_self, or_true, true_or, or_false, false_or, and_true, true_and, and_self, not_true_eq_false, not_false_eq_true, Bool.false_eq_true]
    · by_cases h2 : allN (fitR W B c) n = true
      · have hf : fitT W B n c = true := by unfold fitT; rw [decide_eq_true h1, h2]; rfl
        rw [bi_t h2] at ef
        simp -implicitDefEqProofs (disch := (first | omega | assumption | exact am_isS_3 | exact am_isS_25 | exact am_isX_356 | exact am_isX_359)) only [ggE_fitting_0, ggE_fitting_2, ggE_fitting_3, ggE_fitting_4, ggE_fitting_5, ggE_fitting_6, ccE_fitting_3_1, ew, ef, h1, hf, am_kI_x, am_kV_x, am_kI_i, am_nI_i, am_kV_i, am_nV_i, ↓reduceIte, eq_self, if_true, if_false, c_in, c_tn, pn_add, pn_mul, pn_subc, pn_addm, c_le_t, c_le_f, c_lt_t, c_lt_f, c_eq_f, c_eqm, bi_z, bi_1, bi_b, bi_T, bi_F, ite_not, up_eq, up_ne, or_self, or_true, true_or, or_false, false_or, and_true, true_and, and_self, not_true_eq_false, not_false_eq_true, Bool.false_eq_true]
      · have hf : fitT W B n c = false := by unfold fitT; rw [Bool.eq_false_iff.mpr h2, Bool.and_false]
        rw [bi_f h2] at ef
        simp -implicitDefEqProofs (disch := (first | omega | assumption | exact am_isS_3 | exact am_isS_25 | exact am_isX_356 | exact am_isX_359)) only [ggE_fitting_0, ggE_fitting_2, ggE_fitting_3, ggE_fitting_4, ggE_fitting_5, ggE_fitting_6, ccE_fitting_3_1, ew, ef, h1, hf, am_kI_x, am_kV_x, am_kI_i, am_nI_i, am_kV_i, am_nV_i, ↓reduceIte, eq_self, if_true, if_false, c_in, c_tn, pn_add, pn_mul, pn_subc, pn_addm, c_le_t, c_le_f, c_lt_t, c_lt_f, c_eq_f, c_eqm, bi_z, bi_1, bi_b, bi_T, bi_F, ite_not, up_eq, up_ne, or_self, or_true, true_or, or_false, false_or, and_true, true_and, and_self, not_true_eq_false, not_false_eq_true, Bool.false_eq_true]
  · rw [ggE_fitting_1]
    simp -implicitDefEqProofs (disch := (first | omega | assumption | exact am_isS_3 | exact am_isS_25 | exact am_isX_356 | exact am_isX_359)) only [ggE_fitting_0, ggE_fitting_2, ggE_fitting_3, ggE_fitting_4, ggE_fitting_5, ggE_fitting_6, ccE_fitting_3_1, am_kI_x, am_kV_x, am_kI_i, am_nI_i, am_kV_i, am_nV_i, ↓reduceIte, eq_self, if_true, if_false, c_in, c_tn, pn_add, pn_mul, pn_subc, pn_addm, c_le_t, c_le_f, c_lt_t, c_lt_f, c_eq_f, c_eqm, bi_z, bi_1, bi_b, bi_T, bi_F, ite_not, up_eq, up_ne, or_self, or_true, true_or, or_false, false_or, and_true, true_and, and_self, not_true_eq_false, not_false_eq_true, Bool.false_eq_true]
theorem lt_not1 {v : Int32} : ((Int32.ofNat 1) < v) = ¬ (v ≤ (Int32.ofNat 1)) := propext (by rw [Int32.le_iff_toInt_le, Int32.lt_iff_toInt_lt]; omega)
theorem rR_fitting {hC hR : am_H} {n : Nat} {B : Nat → Nat} (T : told hC hR B n) (d : Nat) : am_cl (d + 4) qR_fitting [.ref 373] hR = some (.inl (some (bset (fitT (hR.2 374) B n) 9)), hR) := by
  obtain ⟨hn, -, e1, hB, hr⟩ := T
  have l : ∀ (t : Nat), t < 9 → ∀ (s : Int32) (k i : Nat) (b0 : Bool), i + k = n → am_go (am_cl (d + 3)) qR_fitting 6 [.ref 373, .int s, .int (Int32.ofNat t), .int (bi ((b0 && allN (fitR (hR.2 374) B t) i) = true)), .int (Int32.ofNat (2 * i))] [] hR = am_go (am_cl (d + 3)) qR_fitting 12 [.ref 373, .int s, .int (Int32.ofNat t), .int (bi ((b0 && allN (fitR (hR.2 374) B t) n) = true)), .int (Int32.ofNat (2 * n))] [] hR := by
    intro t ht s k
    induction k with
    | zero =>
      intro i b0 hi
      have hi : i = n := by omega
      subst hi
      rw [ggR_fitting_6]
      simp -implicitDefEqProofs (disch := (first | omega | assumption | exact am_isS_3 | exact am_isS_25 | exact am_isX_356 | exact am_isX_359)) only [ggR_fitting_0, ggR_fitting_2, ggR_fitting_3, ggR_fitting_4, ggR_fitting_5, ggR_fitting_7, ggR_fitting_8, ggR_fitting_9, ggR_fitting_10, ggR_fitting_11, ggR_fitting_13, ggR_fitting_14, ggR_fitting_15, ggR_fitting_16, ccR_fitting_2_1, ccR_fitting_8_1, e1, am_kI_x, am_kV_x, am_kI_i, am_nI_i, am_kV_i, am_nV_i, ↓reduceIte, eq_self, if_true, if_false, c_in, c_tn, pn_add, pn_mul, pn_subc, pn_addm, c_le_t, c_le_f, c_lt_t, c_lt_f, c_eq_f, c_eqm, bi_z, bi_1, bi_b, bi_T, bi_F, ite_not, up_eq, up_ne, or_self, or_true, true_or, or_false, false_or, and_true, true_and, and_self, not_true_eq_false, not_false_eq_true, Bool.false_eq_true]
    | succ k ih =>
      intro i b0 hi
      obtain ⟨-, -, b2⟩ := hB (2 * i) (by omega)
      obtain ⟨-, -, b4⟩ := hB (2 * i + 1) (by omega)
      obtain ⟨c1, c2⟩ := hr i (by omega)
      have s1 : ((Int32.ofNat (B (2 * i))) : Int32).toInt8.toInt32 = (Int32.ofNat (B (2 * i))) := by
        rcases sbt_at (b := B (2 * i)) (by omega) with q | q
        · exact q.2
        · omega
      have s2 : ((Int32.ofNat (B (2 * i + 1))) : Int32).toInt8.toInt32 = (Int32.ofNat (B (2 * i + 1))) := by
        rcases sbt_at (b := B (2 * i + 1)) (by omega) with q | q
        · exact q.2
        · omega
      have ih := ih (i + 1) b0 (by omega)
      rw [show 2 * (i + 1) = 2 * i + 2 by omega, allN_S] at ih
      rw [← ih, ggR_fitting_6]
      by_cases h1 : (b0 && allN (fitR (hR.2 374) B t) i) = true
      · by_cases hq : am_abs (felt (hR.2 374) (B (2 * i)) t - (Int32.ofNat (B (2 * i + 1)))) ≤ (Int32.ofNat 1)
        · have hp : fitR (hR.2 374) B t i = true := decide_eq_true hq
          rw [bi_t h1, bi_t (by rw [← Bool.and_assoc, h1, hp]; rfl)]
          simp -implicitDefEqProofs (disch := (first | omega | assumption | exact am_isS_3 | exact am_isS_25 | exact am_isX_356 | exact am_isX_359)) only [ggR_fitting_0, ggR_fitting_2, ggR_fitting_3, ggR_fitting_4, ggR_fitting_5, ggR_fitting_7, ggR_fitting_8, ggR_fitting_9, ggR_fitting_10, ggR_fitting_11, ggR_fitting_13, ggR_fitting_14, ggR_fitting_15, ggR_fitting_16, ccR_fitting_2_1, ccR_fitting_8_1, e1, b2, b4, s1, s2, rR_feltOf, lt_not1, hq, am_kI_x, am_kV_x, am_kI_i, am_nI_i, am_kV_i, am_nV_i, ↓reduceIte, eq_self, if_true, if_false, c_in, c_tn, pn_add, pn_mul, pn_subc, pn_addm, c_le_t, c_le_f, c_lt_t, c_lt_f, c_eq_f, c_eqm, bi_z, bi_1, bi_b, bi_T, bi_F, ite_not, up_eq, up_ne, or_self, or_true, true_or, or_false, false_or, and_true, true_and, and_self, not_true_eq_false, not_false_eq_true, Bool.false_eq_true]
        · have hp : fitR (hR.2 374) B t i = false := decide_eq_false hq
          rw [bi_t h1, bi_f (by rw [hp, Bool.and_false, Bool.and_false]; decide)]
          simp -implicitDefEqProofs (disch := (first | omega | assumption | exact am_isS_3 | exact am_isS_25 | exact am_isX_356 | exact am_isX_359)) only [ggR_fitting_0, ggR_fitting_2, ggR_fitting_3, ggR_fitting_4, ggR_fitting_5, ggR_fitting_7, ggR_fitting_8, ggR_fitting_9, ggR_fitting_10, ggR_fitting_11, ggR_fitting_13, ggR_fitting_14, ggR_fitting_15, ggR_fitting_16, ccR_fitting_2_1, ccR_fitting_8_1, e1, b2, b4, s1, s2, rR_feltOf, lt_not1, hq, am_kI_x, am_kV_x, am_kI_i, am_nI_i, am_kV_i, am_nV_i, ↓reduceIte, eq_self, if_true, if_false, c_in, c_tn, pn_add, pn_mul, pn_subc, pn_addm, c_le_t, c_le_f, c_lt_t, c_lt_f, c_eq_f, c_eqm, bi_z, bi_1, bi_b, bi_T, bi_F, ite_not, up_eq, up_ne, or_self, or_true, true_or, or_false, false_or, and_true, true_and, and_self, not_true_eq_false, not_false_eq_true, Bool.false_eq_true]
      · rw [bi_f h1, bi_f (by rw [← Bool.and_assoc, Bool.eq_false_iff.mpr h1, Bool.false_and]; decide)]
        simp -implicitDefEqProofs (disch := (first | omega | assumption | exact am_isS_3 | exact am_isS_25 | exact am_isX_356 | exact am_isX_359)) only [ggR_fitting_0, ggR_fitting_2, ggR_fitting_3, ggR_fitting_4, ggR_fitting_5, ggR_fitting_7, ggR_fitting_8, ggR_fitting_9, ggR_fitting_10, ggR_fitting_11, ggR_fitting_13, ggR_fitting_14, ggR_fitting_15, ggR_fitting_16, ccR_fitting_2_1, ccR_fitting_8_1, e1, am_kI_x, am_kV_x, am_kI_i, am_nI_i, am_kV_i, am_nV_i, ↓reduceIte, eq_self, if_true, if_false, c_in, c_tn, pn_add, pn_mul, pn_subc, pn_addm, c_le_t, c_le_f, c_lt_t, c_lt_f, c_eq_f, c_eqm, bi_z, bi_1, bi_b, bi_T, bi_F, ite_not, up_eq, up_ne, or_self, or_true, true_or, or_false, false_or, and_true, true_and, and_self, not_true_eq_false, not_false_eq_true, Bool.false_eq_true]
  rw [uR_fitting, ggR_fitting_0]
  have l2 : ∀ k c (s : Int32) (v3 v4 : Value), c + k = 9 → am_go (am_cl (d + 3)) qR_fitting 1 [.ref 373, .int s, .int (Int32.ofNat c), v3, v4] [] hR = some (.inl (some (itr (fun c b => if fitT (hR.2 374) B n c = true then b ||| ((Int32.ofNat 1) <<< ((Int32.ofNat c) &&& (Int32.ofNat 31))) else b) k c s)), hR) := by
    intro k
    induction k with
    | zero =>
      intro c s v3 v4 hc
      rw [ggR_fitting_1]
      simp -implicitDefEqProofs (disch := (first | omega | assumption | exact am_isS_3 | exact am_isS_25 | exact am_isX_356 | exact am_isX_359)) only [ggR_fitting_0, ggR_fitting_2, ggR_fitting_3, ggR_fitting_4, ggR_fitting_5, ggR_fitting_7, ggR_fitting_8, ggR_fitting_9, ggR_fitting_10, ggR_fitting_11, ggR_fitting_12, ggR_fitting_13, ggR_fitting_14, ggR_fitting_15, ggR_fitting_16, ccR_fitting_2_1, ccR_fitting_8_1, itr, am_kI_x, am_kV_x, am_kI_i, am_nI_i, am_kV_i, am_nV_i, ↓reduceIte, eq_self, if_true, if_false, c_in, c_tn, pn_add, pn_mul, pn_subc, pn_addm, c_le_t, c_le_f, c_lt_t, c_lt_f, c_eq_f, c_eqm, bi_z, bi_1, bi_b, bi_T, bi_F, ite_not, up_eq, up_ne, or_self, or_true, true_or, or_false, false_or, and_true, true_and, and_self, not_true_eq_false, not_false_eq_true, Bool.false_eq_true]
    | succ k ih =>
      intro c s v3 v4 hc
      have l0 := fun s b0 => l c (by omega) s n 0 b0 (by omega)
      have ihx := ih (c + 1)
      show _ = (some (.inl (some (itr _ k (c + 1) (if fitT (hR.2 374) B n c = true then s ||| ((Int32.ofNat 1) <<< ((Int32.ofNat c) &&& (Int32.ofNat 31))) else s))), hR) : Option am_R)
      rw [ggR_fitting_1]
      by_cases h1 : wt (hR.2 374) c ≤ (Int32.ofNat 0)
      · have hf : ¬ fitT (hR.2 374) B n c = true := by unfold fitT; rw [decide_eq_false (fun q => q h1), Bool.false_and]; decide
        have l0 := l0 s false
        rw [Bool.false_and, Bool.false_and, bi_f (by decide)] at l0
        rw [if_neg hf, ← ihx s (.int (Int32.ofNat 0)) (.int (Int32.ofNat (2 * n))) (by omega)]
        simp -implicitDefEqProofs (disch := (first | omega | assumption | exact am_isS_3 | exact am_isS_25 | exact am_isX_356 | exact am_isX_359)) only [ggR_fitting_0, ggR_fitting_2, ggR_fitting_3, ggR_fitting_4, ggR_fitting_5, ggR_fitting_7, ggR_fitting_8, ggR_fitting_9, ggR_fitting_10, ggR_fitting_11, ggR_fitting_13, ggR_fitting_14, ggR_fitting_15, ggR_fitting_16, ccR_fitting_2_1, ccR_fitting_8_1, rR_wt, h1, am_kI_x, am_kV_x, am_kI_i, am_nI_i, am_kV_i, am_nV_i, ↓reduceIte, eq_self, if_true, if_false, c_in, c_tn, pn_add, pn_mul, pn_subc, pn_addm, c_le_t, c_le_f, c_lt_t, c_lt_f, c_eq_f, c_eqm, bi_z, bi_1, bi_b, bi_T, bi_F, ite_not, up_eq, up_ne, or_self, or_true, true_or, or_false, false_or, and_true, true_and, and_self, not_true_eq_false, not_false_eq_true, Bool.false_eq_true]
        refine l0.trans ?_
        simp -implicitDefEqProofs (disch := (first | omega | assumption | exact am_isS_3 | exact am_isS_25 | exact am_isX_356 | exact am_isX_359)) only [ggR_fitting_0, ggR_fitting_2, ggR_fitting_3, ggR_fitting_4, ggR_fitting_5, ggR_fitting_7, ggR_fitting_8, ggR_fitting_9, ggR_fitting_10, ggR_fitting_11, ggR_fitting_12, ggR_fitting_13, ggR_fitting_14, ggR_fitting_15, ggR_fitting_16, ccR_fitting_2_1, ccR_fitting_8_1, or_zero32, am_kI_x, am_kV_x, am_kI_i, am_nI_i, am_kV_i, am_nV_i, ↓reduceIte, eq_self, if_true, if_false, c_in, c_tn, pn_add, pn_mul, pn_subc, pn_addm, c_le_t, c_le_f, c_lt_t, c_lt_f, c_eq_f, c_eqm, bi_z, bi_1, bi_b, bi_T, bi_F, ite_not, up_eq, up_ne, or_self, or_true, true_or, or_false, false_or, and_true, true_and, and_self, not_true_eq_false, not_false_eq_true, Bool.false_eq_true]
      · have l0 := l0 s true
        rw [Bool.true_and, Bool.true_and, bi_t (show allN (fitR (hR.2 374) B c) 0 = true from rfl)] at l0
        by_cases h2 : allN (fitR (hR.2 374) B c) n = true
        · have hf : fitT (hR.2 374) B n c = true := by unfold fitT; rw [decide_eq_true h1, h2]; rfl
          rw [bi_t h2] at l0
          rw [if_pos hf, ← ihx _ (.int (Int32.ofNat 1)) (.int (Int32.ofNat (2 * n))) (by omega)]
          simp -implicitDefEqProofs (disch := (first | omega | assumption | exact am_isS_3 | exact am_isS_25 | exact am_isX_356 | exact am_isX_359)) only [ggR_fitting_0, ggR_fitting_2, ggR_fitting_3, ggR_fitting_4, ggR_fitting_5, ggR_fitting_7, ggR_fitting_8, ggR_fitting_9, ggR_fitting_10, ggR_fitting_11, ggR_fitting_13, ggR_fitting_14, ggR_fitting_15, ggR_fitting_16, ccR_fitting_2_1, ccR_fitting_8_1, rR_wt, h1, am_kI_x, am_kV_x, am_kI_i, am_nI_i, am_kV_i, am_nV_i, ↓reduceIte, eq_self, if_true, if_false, c_in, c_tn, pn_add, pn_mul, pn_subc, pn_addm, c_le_t, c_le_f, c_lt_t, c_lt_f, c_eq_f, c_eqm, bi_z, bi_1, bi_b, bi_T, bi_F, ite_not, up_eq, up_ne, or_self, or_true, true_or, or_false, false_or, and_true, true_and, and_self, not_true_eq_false, not_false_eq_true, Bool.false_eq_true]
          refine l0.trans ?_
          simp -implicitDefEqProofs (disch := (first | omega | assumption | exact am_isS_3 | exact am_isS_25 | exact am_isX_356 | exact am_isX_359)) only [ggR_fitting_0, ggR_fitting_2, ggR_fitting_3, ggR_fitting_4, ggR_fitting_5, ggR_fitting_7, ggR_fitting_8, ggR_fitting_9, ggR_fitting_10, ggR_fitting_11, ggR_fitting_12, ggR_fitting_13, ggR_fitting_14, ggR_fitting_15, ggR_fitting_16, ccR_fitting_2_1, ccR_fitting_8_1, am_kI_x, am_kV_x, am_kI_i, am_nI_i, am_kV_i, am_nV_i, ↓reduceIte, eq_self, if_true, if_false, c_in, c_tn, pn_add, pn_mul, pn_subc, pn_addm, c_le_t, c_le_f, c_lt_t, c_lt_f, c_eq_f, c_eqm, bi_z, bi_1, bi_b, bi_T, bi_F, ite_not, up_eq, up_ne, or_self, or_true, true_or, or_false, false_or, and_true, true_and, and_self, not_true_eq_false, not_false_eq_true, Bool.false_eq_true]
        · have hf : ¬ fitT (hR.2 374) B n c = true := by unfold fitT; rw [Bool.eq_false_iff.mpr h2, Bool.and_false]; decide
          rw [bi_f h2] at l0
          rw [if_neg hf, ← ihx s (.int (Int32.ofNat 0)) (.int (Int32.ofNat (2 * n))) (by omega)]
          simp -implicitDefEqProofs (disch := (first | omega | assumption | exact am_isS_3 | exact am_isS_25 | exact am_isX_356 | exact am_isX_359)) only [ggR_fitting_0, ggR_fitting_2, ggR_fitting_3, ggR_fitting_4, ggR_fitting_5, ggR_fitting_7, ggR_fitting_8, ggR_fitting_9, ggR_fitting_10, ggR_fitting_11, ggR_fitting_13, ggR_fitting_14, ggR_fitting_15, ggR_fitting_16, ccR_fitting_2_1, ccR_fitting_8_1, rR_wt, h1, am_kI_x, am_kV_x, am_kI_i, am_nI_i, am_kV_i, am_nV_i, ↓reduceIte, eq_self, if_true, if_false, c_in, c_tn, pn_add, pn_mul, pn_subc, pn_addm, c_le_t, c_le_f, c_lt_t, c_lt_f, c_eq_f, c_eqm, bi_z, bi_1, bi_b, bi_T, bi_F, ite_not, up_eq, up_ne, or_self, or_true, true_or, or_false, false_or, and_true, true_and, and_self, not_true_eq_false, not_false_eq_true, Bool.false_eq_true]
          refine l0.trans ?_
          simp -implicitDefEqProofs (disch := (first | omega | assumption | exact am_isS_3 | exact am_isS_25 | exact am_isX_356 | exact am_isX_359)) only [ggR_fitting_0, ggR_fitting_2, ggR_fitting_3, ggR_fitting_4, ggR_fitting_5, ggR_fitting_7, ggR_fitting_8, ggR_fitting_9, ggR_fitting_10, ggR_fitting_11, ggR_fitting_12, ggR_fitting_13, ggR_fitting_14, ggR_fitting_15, ggR_fitting_16, ccR_fitting_2_1, ccR_fitting_8_1, or_zero32, am_kI_x, am_kV_x, am_kI_i, am_nI_i, am_kV_i, am_nV_i, ↓reduceIte, eq_self, if_true, if_false, c_in, c_tn, pn_add, pn_mul, pn_subc, pn_addm, c_le_t, c_le_f, c_lt_t, c_lt_f, c_eq_f, c_eqm, bi_z, bi_1, bi_b, bi_T, bi_F, ite_not, up_eq, up_ne, or_self, or_true, true_or, or_false, false_or, and_true, true_and, and_self, not_true_eq_false, not_false_eq_true, Bool.false_eq_true]
  exact l2 9 0 (Int32.ofNat 0) .null .null (by omega)
/-- weights of those in a set -/
def wIn (W : Nat → Int32) (p : Nat → Bool) (t : Nat) : Int32 := if p t = true then wt W t else (Int32.ofNat 0)
theorem one_rg (x : Int32) : rg (x &&& (Int32.ofNat 1)) 2 := by
  refine ⟨(x &&& (Int32.ofNat 1)).toBitVec.toNat, ?_, (of_toNat _).symm⟩
  have : (x &&& (Int32.ofNat 1)).toBitVec = x.toBitVec &&& BitVec.ofNat 32 1 := rfl
  rw [this, BitVec.toNat_and]
  have := Nat.and_le_right (n := x.toBitVec.toNat) (m := (BitVec.ofNat 32 1).toNat)
  have h2 : (BitVec.ofNat 32 1).toNat = 1 := rfl
  omega
theorem has_b (p : Nat → Bool) {N c : Nat} (hN : N ≤ 32) (hc : c < N) : ((bset p N >>> ((Int32.ofNat c) &&& (Int32.ofNat 31))) &&& (Int32.ofNat 1) = (Int32.ofNat 1)) = (p c = true) := by
  apply propext
  rw [tb_has (by omega), tb_bset p hN (by omega), decide_eq_true hc, Bool.true_and]
theorem has_z (p : Nat → Bool) {N c : Nat} (hN : N ≤ 32) (hc : c < N) : ((bset p N >>> ((Int32.ofNat c) &&& (Int32.ofNat 31))) &&& (Int32.ofNat 1) = (Int32.ofNat 0)) = ¬ (p c = true) := by
  have h : ∀ x : Int32, x &&& (Int32.ofNat 1) = (Int32.ofNat 0) ∨ x &&& (Int32.ofNat 1) = (Int32.ofNat 1) := fun x => by
    obtain ⟨n, hn, e⟩ := one_rg x
    rw [e]
    rcases (show n = 0 ∨ n = 1 by omega) with rfl | rfl
    · exact Or.inl rfl
    · exact Or.inr rfl
  have hb := has_b p hN hc
  apply propext
  rcases h (bset p N >>> ((Int32.ofNat c) &&& (Int32.ofNat 31))) with q | q
  · rw [q] at hb ⊢
    rw [← hb]
    decide
  · rw [q] at hb ⊢
    rw [← hb]
    decide
