/-! weights of those that fit; odds; what is expected; likely -/
theorem nsum_ge {f : Nat → Nat} {t : Nat} : ∀ {n : Nat}, t < n → f t ≤ nsum f n := by
  intro n
  induction n with
  | zero => intro h; omega
  | succ n ih =>
    intro h
    rw [nsum_S]
    by_cases hq : t = n
    · rw [hq]; omega
    · have := ih (by omega); omega
def wiN (w : Nat → Nat) (p : Nat → Bool) (t : Nat) : Nat := if p t = true then w t else 0
theorem wiN_le {w : Nat → Nat} {p : Nat → Bool} {b t : Nat} (h : w t ≤ b) : wiN w p t ≤ b := by
  unfold wiN
  split <;> omega
theorem xE_weightIn {h : am_H} {W : Nat → Int32} {N G : Nat} (R : RelS h 3 W N G) {w : Nat → Nat} (hw : ∀ t, t < 9 → w t ≤ 9 ∧ wt W t = (Int32.ofNat (w t))) (p : Nat → Bool) {t : Nat} (ht : t < 9) (d : Nat) : am_cl (d + 1) qE_weightIn [.ref 3, .int ((bset p 9)), .int (Int32.ofNat t)] h = some (.inl (some ((Int32.ofNat (wiN w p t)))), h) := by
  have ew := wt_rel R ht
  rw [(hw t ht).2] at ew
  have hz := has_z p (N := 9) (c := t) (by omega) ht
  unfold wiN
  by_cases hp : p t = true
  · rw [if_pos hp]
    simp -implicitDefEqProofs (disch := (first | omega | assumption | exact am_isS_3 | exact am_isS_25 | exact am_isX_356 | exact am_isX_359)) only [uE_weightIn, ggE_weightIn_0, ggE_weightIn_1, ggE_weightIn_2, ggE_weightIn_3, ew, hz, hp, am_kI_x, am_kV_x, am_kI_i, am_nI_i, am_kV_i, am_nV_i, ↓reduceIte, eq_self, if_true, if_false, c_in, c_tn, pn_add, pn_mul, pn_subc, pn_addm, c_le_t, c_le_f, c_lt_t, c_lt_f, c_eq_f, c_eqm, bi_z, bi_1, bi_b, bi_T, bi_F, ite_not, up_eq, up_ne, or_self, or_true, true_or, or_false, false_or, and_true, true_and, and_self, not_true_eq_false, not_false_eq_true, Bool.false_eq_true]
  · rw [if_neg hp]
    simp -implicitDefEqProofs (disch := (first | omega | assumption | exact am_isS_3 | exact am_isS_25 | exact am_isX_356 | exact am_isX_359)) only [uE_weightIn, ggE_weightIn_0, ggE_weightIn_1, ggE_weightIn_2, ggE_weightIn_3, ew, hz, hp, am_kI_x, am_kV_x, am_kI_i, am_nI_i, am_kV_i, am_nV_i, ↓reduceIte, eq_self, if_true, if_false, c_in, c_tn, pn_add, pn_mul, pn_subc, pn_addm, c_le_t, c_le_f, c_lt_t, c_lt_f, c_eq_f, c_eqm, bi_z, bi_1, bi_b, bi_T, bi_F, ite_not, up_eq, up_ne, or_self, or_true, true_or, or_false, false_or, and_true, true_and, and_self, not_true_eq_false, not_false_eq_true, Bool.false_eq_true]
theorem xE_weightsOf {h : am_H} {W : Nat → Int32} {N G : Nat} (R : RelS h 3 W N G) {w : Nat → Nat} (hw : ∀ t, t < 9 → w t ≤ 9 ∧ wt W t = (Int32.ofNat (w t))) (p : Nat → Bool) (d : Nat) : am_cl (d + 2) qE_weightsOf [.ref 3, .int ((bset p 9))] h = some (.inl (some ((Int32.ofNat (nsum (wiN w p) 9)))), h) := by
  rw [uE_weightsOf, ggE_weightsOf_0, ← itr_nsum]
  refine lp (N := 9) (L := fun c (b : Nat) => [.ref 3, .int (bset p 9), .int (Int32.ofNat b), .int (Int32.ofNat c)]) (H := fun _ => h) (R := fun b => some (.inl (some ((Int32.ofNat b))), h)) _ (fun c b hc => ?_) (fun b => ?_) 9 0 0 (by omega)
  · rw [ggE_weightsOf_1]
    have e := fun d => xE_weightIn R hw p hc d
    simp -implicitDefEqProofs (disch := (first | omega | assumption | exact am_isS_3 | exact am_isS_25 | exact am_isX_356 | exact am_isX_359)) only [ggE_weightsOf_0, ggE_weightsOf_2, ggE_weightsOf_3, ccE_weightsOf_2_1, e, am_kI_x, am_kV_x, am_kI_i, am_nI_i, am_kV_i, am_nV_i, ↓reduceIte, eq_self, if_true, if_false, c_in, c_tn, pn_add, pn_mul, pn_subc, pn_addm, c_le_t, c_le_f, c_lt_t, c_lt_f, c_eq_f, c_eqm, bi_z, bi_1, bi_b, bi_T, bi_F, ite_not, up_eq, up_ne, or_self, or_true, true_or, or_false, false_or, and_true, true_and, and_self, not_true_eq_false, not_false_eq_true, Bool.false_eq_true]
  · rw [ggE_weightsOf_1]
    simp -implicitDefEqProofs (disch := (first | omega | assumption | exact am_isS_3 | exact am_isS_25 | exact am_isX_356 | exact am_isX_359)) only [ggE_weightsOf_0, ggE_weightsOf_2, ggE_weightsOf_3, ccE_weightsOf_2_1, am_kI_x, am_kV_x, am_kI_i, am_nI_i, am_kV_i, am_nV_i, ↓reduceIte, eq_self, if_true, if_false, c_in, c_tn, pn_add, pn_mul, pn_subc, pn_addm, c_le_t, c_le_f, c_lt_t, c_lt_f, c_eq_f, c_eqm, bi_z, bi_1, bi_b, bi_T, bi_F, ite_not, up_eq, up_ne, or_self, or_true, true_or, or_false, false_or, and_true, true_and, and_self, not_true_eq_false, not_false_eq_true, Bool.false_eq_true]
theorem rR_weightsOf {h : am_H} {w : Nat → Nat} (hw : ∀ t, t < 9 → w t ≤ 9 ∧ wt (h.2 374) t = (Int32.ofNat (w t))) (p : Nat → Bool) (d : Nat) : am_cl (d + 4) qR_weightsOf [.ref 373, .int ((bset p 9))] h = some (.inl (some ((Int32.ofNat (nsum (wiN w p) 9)))), h) := by
  rw [uR_weightsOf, ggR_weightsOf_0, ← itr_nsum]
  refine lp (N := 9) (L := fun c (b : Nat) => [.ref 373, .int (bset p 9), .int (Int32.ofNat b), .int (Int32.ofNat c)]) (H := fun _ => h) (R := fun b => some (.inl (some ((Int32.ofNat b))), h)) _ (fun c b hc => ?_) (fun b => ?_) 9 0 0 (by omega)
  · rw [ggR_weightsOf_1]
    have hb := has_b p (N := 9) (c := c) (by omega) hc
    have ew := (hw c hc).2
    unfold wiN
    by_cases hp : p c = true
    · rw [if_pos hp]
      simp -implicitDefEqProofs (disch := (first | omega | assumption | exact am_isS_3 | exact am_isS_25 | exact am_isX_356 | exact am_isX_359)) only [ggR_weightsOf_0, ggR_weightsOf_2, ggR_weightsOf_3, ggR_weightsOf_4, ggR_weightsOf_5, ggR_weightsOf_6, ccR_weightsOf_2_1, ccR_weightsOf_3_1, rR_has, hb, hp, rR_wt, ew, am_kI_x, am_kV_x, am_kI_i, am_nI_i, am_kV_i, am_nV_i, ↓reduceIte, eq_self, if_true, if_false, c_in, c_tn, pn_add, pn_mul, pn_subc, pn_addm, c_le_t, c_le_f, c_lt_t, c_lt_f, c_eq_f, c_eqm, bi_z, bi_1, bi_b, bi_T, bi_F, ite_not, up_eq, up_ne, or_self, or_true, true_or, or_false, false_or, and_true, true_and, and_self, not_true_eq_false, not_false_eq_true, Bool.false_eq_true]
    · rw [if_neg hp]
      simp -implicitDefEqProofs (disch := (first | omega | assumption | exact am_isS_3 | exact am_isS_25 | exact am_isX_356 | exact am_isX_359)) only [ggR_weightsOf_0, ggR_weightsOf_2, ggR_weightsOf_3, ggR_weightsOf_4, ggR_weightsOf_5, ggR_weightsOf_6, ccR_weightsOf_2_1, ccR_weightsOf_3_1, rR_has, hb, hp, am_kI_x, am_kV_x, am_kI_i, am_nI_i, am_kV_i, am_nV_i, ↓reduceIte, eq_self, if_true, if_false, c_in, c_tn, pn_add, pn_mul, pn_subc, pn_addm, c_le_t, c_le_f, c_lt_t, c_lt_f, c_eq_f, c_eqm, bi_z, bi_1, bi_b, bi_T, bi_F, ite_not, up_eq, up_ne, or_self, or_true, true_or, or_false, false_or, and_true, true_and, and_self, not_true_eq_false, not_false_eq_true, Bool.false_eq_true]
  · rw [ggR_weightsOf_1]
    simp -implicitDefEqProofs (disch := (first | omega | assumption | exact am_isS_3 | exact am_isS_25 | exact am_isX_356 | exact am_isX_359)) only [ggR_weightsOf_0, ggR_weightsOf_2, ggR_weightsOf_3, ggR_weightsOf_4, ggR_weightsOf_5, ggR_weightsOf_6, ccR_weightsOf_2_1, ccR_weightsOf_3_1, am_kI_x, am_kV_x, am_kI_i, am_nI_i, am_kV_i, am_nV_i, ↓reduceIte, eq_self, if_true, if_false, c_in, c_tn, pn_add, pn_mul, pn_subc, pn_addm, c_le_t, c_le_f, c_lt_t, c_lt_f, c_eq_f, c_eqm, bi_z, bi_1, bi_b, bi_T, bi_F, ite_not, up_eq, up_ne, or_self, or_true, true_or, or_false, false_or, and_true, true_and, and_self, not_true_eq_false, not_false_eq_true, Bool.false_eq_true]
/-- what a set is worth, by weights -/
def expN (w : Nat → Nat) (v : Nat → Nat) (p : Nat → Bool) : Nat := if nsum (wiN w p) 9 = 0 then 0 else nsum (fun t => wiN w p t * v t) 9 / nsum (wiN w p) 9
theorem wo_nat {W : Nat → Int32} (H : okT W) : ∃ v : Nat → Nat, ∀ t, t < 9 → v t ≤ 99 ∧ W (7 + 4 * t + 3) = (Int32.ofNat (v t)) := by
  refine ⟨fun t => (W (7 + 4 * t + 3)).toNatClampNeg, fun t ht => ?_⟩
  have : rg (W (7 + 4 * t + 3)) 100 := by
    by_cases h8 : t = 8
    · subst h8
      exact ⟨0, by omega, H.2.2.2.2.2.1⟩
    · exact (H.2.2.2.2.2.2 t (by omega)).2.2.2
  obtain ⟨n, hn, e⟩ := this
  show (W (7 + 4 * t + 3)).toNatClampNeg ≤ 99 ∧ W (7 + 4 * t + 3) = (Int32.ofNat ((W (7 + 4 * t + 3)).toNatClampNeg))
  rw [e, c_tn (by omega)]
  exact ⟨by omega, rfl⟩
theorem nsum_wv {w v : Nat → Nat} {p : Nat → Bool} (hw : ∀ t, t < 9 → w t ≤ 9) (hv : ∀ t, t < 9 → v t ≤ 99) : nsum (fun t => wiN w p t * v t) 9 ≤ 891 * 9 := nsum_le (fun t ht => by
  have h1 := wiN_le (p := p) (hw t ht)
  have h2 := hv t ht
  exact Nat.le_trans (Nat.mul_le_mul h1 h2) (by omega))
theorem xE_expected {h : am_H} {W : Nat → Int32} {N G : Nat} (R : RelS h 3 W N G) {w v : Nat → Nat} (hw : ∀ t, t < 9 → w t ≤ 9 ∧ wt W t = (Int32.ofNat (w t))) (hv : ∀ t, t < 9 → v t ≤ 99 ∧ W (7 + 4 * t + 3) = (Int32.ofNat (v t))) (p : Nat → Bool) (d : Nat) : am_cl (d + 3) qE_expected [.ref 3, .int ((bset p 9))] h = some (.inl (some ((Int32.ofNat (expN w v p)))), h) := by
  have r11 := R.2.2.2.2.2.2.2.2.2.2.1
  have ew := fun d => xE_weightsOf R hw p d
  have b1 := nsum_le (w := wiN w p) (b := 9) (n := 9) (fun t ht => wiN_le (hw t ht).1)
  have b2 := nsum_wv (p := p) (fun t ht => (hw t ht).1) (fun t ht => (hv t ht).1)
  have l : am_go (am_cl (d + 2)) qE_expected 1 [.ref 3, .int (bset p 9), .int (Int32.ofNat (nsum (wiN w p) 9)), .int (Int32.ofNat 0), .int (Int32.ofNat 0)] [] h = some (.inl (some ((Int32.ofNat (expN w v p)))), h) := by
    unfold expN
    rw [← itr_nsum (fun t => wiN w p t * v t)]
    rw [← itr_nsum (fun t => wiN w p t * v t)] at b2
    generalize hT : itr (fun t b => b + wiN w p t * v t) 9 0 0 = T at b2
    rw [← hT]
    refine (lp (N := 9) (L := fun c (b : Nat) => [.ref 3, .int (bset p 9), .int (Int32.ofNat (nsum (wiN w p) 9)), .int (Int32.ofNat b), .int (Int32.ofNat c)]) (H := fun _ => h) (R := fun b => am_go (am_cl (d + 2)) qE_expected 3 [.ref 3, .int (bset p 9), .int (Int32.ofNat (nsum (wiN w p) 9)), .int (Int32.ofNat b), .int (Int32.ofNat 9)] [] h) (fun t b => b + wiN w p t * v t) (fun c b hc => ?_) (fun b => ?_) 9 0 0 (by omega)).trans ?_
    · rw [ggE_expected_1]
      have e := fun d => xE_weightIn R hw p hc d
      have ev := (hv c hc).2
      simp -implicitDefEqProofs (disch := (first | omega | assumption | exact am_isS_3 | exact am_isS_25 | exact am_isX_356 | exact am_isX_359)) only [ggE_expected_0, ggE_expected_2, ggE_expected_4, ggE_expected_5, ggE_expected_6, ccE_expected_0_1, ccE_expected_2_1, e, r11, ev, am_kI_x, am_kV_x, am_kI_i, am_nI_i, am_kV_i, am_nV_i, ↓reduceIte, eq_self, if_true, if_false, c_in, c_tn, pn_add, pn_mul, pn_subc, pn_addm, c_le_t, c_le_f, c_lt_t, c_lt_f, c_eq_f, c_eqm, bi_z, bi_1, bi_b, bi_T, bi_F, ite_not, up_eq, up_ne, or_self, or_true, true_or, or_false, false_or, and_true, true_and, and_self, not_true_eq_false, not_false_eq_true, Bool.false_eq_true]
    · rw [ggE_expected_1]
      simp -implicitDefEqProofs (disch := (first | omega | assumption | exact am_isS_3 | exact am_isS_25 | exact am_isX_356 | exact am_isX_359)) only [ggE_expected_0, ggE_expected_2, ggE_expected_4, ggE_expected_5, ggE_expected_6, ccE_expected_0_1, ccE_expected_2_1, am_kI_x, am_kV_x, am_kI_i, am_nI_i, am_kV_i, am_nV_i, ↓reduceIte, eq_self, if_true, if_false, c_in, c_tn, pn_add, pn_mul, pn_subc, pn_addm, c_le_t, c_le_f, c_lt_t, c_lt_f, c_eq_f, c_eqm, bi_z, bi_1, bi_b, bi_T, bi_F, ite_not, up_eq, up_ne, or_self, or_true, true_or, or_false, false_or, and_true, true_and, and_self, not_true_eq_false, not_false_eq_true, Bool.false_eq_true]
    · rw [hT]
      by_cases h0 : nsum (wiN w p) 9 = 0
      · rw [if_pos h0, h0]
        simp -implicitDefEqProofs (disch := (first | omega | assumption | exact am_isS_3 | exact am_isS_25 | exact am_isX_356 | exact am_isX_359)) only [ggE_expected_0, ggE_expected_2, ggE_expected_3, ggE_expected_4, ggE_expected_5, ggE_expected_6, ccE_expected_0_1, ccE_expected_2_1, am_kI_x, am_kV_x, am_kI_i, am_nI_i, am_kV_i, am_nV_i, ↓reduceIte, eq_self, if_true, if_false, c_in, c_tn, pn_add, pn_mul, pn_subc, pn_addm, c_le_t, c_le_f, c_lt_t, c_lt_f, c_eq_f, c_eqm, bi_z, bi_1, bi_b, bi_T, bi_F, ite_not, up_eq, up_ne, or_self, or_true, true_or, or_false, false_or, and_true, true_and, and_self, not_true_eq_false, not_false_eq_true, Bool.false_eq_true]
      · rw [if_neg h0]
        simp -implicitDefEqProofs (disch := (first | omega | assumption | exact am_isS_3 | exact am_isS_25 | exact am_isX_356 | exact am_isX_359)) only [ggE_expected_0, ggE_expected_2, ggE_expected_3, ggE_expected_4, ggE_expected_5, ggE_expected_6, ccE_expected_0_1, ccE_expected_2_1, pn_div, am_kI_x, am_kV_x, am_kI_i, am_nI_i, am_kV_i, am_nV_i, ↓reduceIte, eq_self, if_true, if_false, c_in, c_tn, pn_add, pn_mul, pn_subc, pn_addm, c_le_t, c_le_f, c_lt_t, c_lt_f, c_eq_f, c_eqm, bi_z, bi_1, bi_b, bi_T, bi_F, ite_not, up_eq, up_ne, or_self, or_true, true_or, or_false, false_or, and_true, true_and, and_self, not_true_eq_false, not_false_eq_true, Bool.false_eq_true]
  simp -implicitDefEqProofs (disch := (first | omega | assumption | exact am_isS_3 | exact am_isS_25 | exact am_isX_356 | exact am_isX_359)) only [uE_expected, ggE_expected_0, ggE_expected_2, ggE_expected_3, ggE_expected_4, ggE_expected_5, ggE_expected_6, ccE_expected_0_1, ccE_expected_2_1, ew, am_kI_x, am_kV_x, am_kI_i, am_nI_i, am_kV_i, am_nV_i, ↓reduceIte, eq_self, if_true, if_false, c_in, c_tn, pn_add, pn_mul, pn_subc, pn_addm, c_le_t, c_le_f, c_lt_t, c_lt_f, c_eq_f, c_eqm, bi_z, bi_1, bi_b, bi_T, bi_F, ite_not, up_eq, up_ne, or_self, or_true, true_or, or_false, false_or, and_true, true_and, and_self, not_true_eq_false, not_false_eq_true, Bool.false_eq_true]
  exact l
theorem rR_expectOf {h : am_H} {w v : Nat → Nat} (hw : ∀ t, t < 9 → w t ≤ 9 ∧ wt (h.2 374) t = (Int32.ofNat (w t))) (hv : ∀ t, t < 9 → v t ≤ 99 ∧ h.2 374 (7 + 4 * t + 3) = (Int32.ofNat (v t))) (p : Nat → Bool) (d : Nat) : am_cl (d + 5) qR_expectOf [.ref 373, .int ((bset p 9))] h = some (.inl (some ((Int32.ofNat (expN w v p)))), h) := by
  have ew := fun d => rR_weightsOf hw p d
  have b1 := nsum_le (w := wiN w p) (b := 9) (n := 9) (fun t ht => wiN_le (hw t ht).1)
  have b2 := nsum_wv (p := p) (fun t ht => (hw t ht).1) (fun t ht => (hv t ht).1)
  rw [uR_expectOf, ggR_expectOf_0]
  unfold expN
  rw [← itr_nsum (fun t => wiN w p t * v t)]
  rw [← itr_nsum (fun t => wiN w p t * v t)] at b2
  generalize hT : itr (fun t b => b + wiN w p t * v t) 9 0 0 = T at b2
  rw [← hT]
  refine (lp (N := 9) (L := fun c (b : Nat) => [.ref 373, .int (bset p 9), .int (Int32.ofNat b), .int (Int32.ofNat c)]) (H := fun _ => h) (R := fun b => am_go (am_cl (d + 4)) qR_expectOf 6 [.ref 373, .int (bset p 9), .int (Int32.ofNat b), .int (Int32.ofNat 9)] [] h) (fun t b => b + wiN w p t * v t) (fun c b hc => ?_) (fun b => ?_) 9 0 0 (by omega)).trans ?_
  · rw [ggR_expectOf_1]
    have hb := has_b p (N := 9) (c := c) (by omega) hc
    have ew := (hw c hc).2
    have ev := (hv c hc).2
    unfold wiN
    by_cases hp : p c = true
    · rw [if_pos hp]
      simp -implicitDefEqProofs (disch := (first | omega | assumption | exact am_isS_3 | exact am_isS_25 | exact am_isX_356 | exact am_isX_359)) only [ggR_expectOf_0, ggR_expectOf_2, ggR_expectOf_3, ggR_expectOf_4, ggR_expectOf_5, ggR_expectOf_7, ggR_expectOf_8, ggR_expectOf_9, ccR_expectOf_2_1, ccR_expectOf_3_2, ccR_expectOf_3_1, ccR_expectOf_6_1, rR_has, hb, hp, rR_wt, rR_ofThing, ew, ev, am_kI_x, am_kV_x, am_kI_i, am_nI_i, am_kV_i, am_nV_i, ↓reduceIte, eq_self, if_true, if_false, c_in, c_tn, pn_add, pn_mul, pn_subc, pn_addm, c_le_t, c_le_f, c_lt_t, c_lt_f, c_eq_f, c_eqm, bi_z, bi_1, bi_b, bi_T, bi_F, ite_not, up_eq, up_ne, or_self, or_true, true_or, or_false, false_or, and_true, true_and, and_self, not_true_eq_false, not_false_eq_true, Bool.false_eq_true]
    · rw [if_neg hp, Nat.zero_mul]
      simp -implicitDefEqProofs (disch := (first | omega | assumption | exact am_isS_3 | exact am_isS_25 | exact am_isX_356 | exact am_isX_359)) only [ggR_expectOf_0, ggR_expectOf_2, ggR_expectOf_3, ggR_expectOf_4, ggR_expectOf_5, ggR_expectOf_7, ggR_expectOf_8, ggR_expectOf_9, ccR_expectOf_2_1, ccR_expectOf_3_2, ccR_expectOf_3_1, ccR_expectOf_6_1, rR_has, hb, hp, am_kI_x, am_kV_x, am_kI_i, am_nI_i, am_kV_i, am_nV_i, ↓reduceIte, eq_self, if_true, if_false, c_in, c_tn, pn_add, pn_mul, pn_subc, pn_addm, c_le_t, c_le_f, c_lt_t, c_lt_f, c_eq_f, c_eqm, bi_z, bi_1, bi_b, bi_T, bi_F, ite_not, up_eq, up_ne, or_self, or_true, true_or, or_false, false_or, and_true, true_and, and_self, not_true_eq_false, not_false_eq_true, Bool.false_eq_true]
  · rw [ggR_expectOf_1]
    simp -implicitDefEqProofs (disch := (first | omega | assumption | exact am_isS_3 | exact am_isS_25 | exact am_isX_356 | exact am_isX_359)) only [ggR_expectOf_0, ggR_expectOf_2, ggR_expectOf_3, ggR_expectOf_4, ggR_expectOf_5, ggR_expectOf_7, ggR_expectOf_8, ggR_expectOf_9, ccR_expectOf_2_1, ccR_expectOf_3_2, ccR_expectOf_3_1, ccR_expectOf_6_1, am_kI_x, am_kV_x, am_kI_i, am_nI_i, am_kV_i, am_nV_i, ↓reduceIte, eq_self, if_true, if_false, c_in, c_tn, pn_add, pn_mul, pn_subc, pn_addm, c_le_t, c_le_f, c_lt_t, c_lt_f, c_eq_f, c_eqm, bi_z, bi_1, bi_b, bi_T, bi_F, ite_not, up_eq, up_ne, or_self, or_true, true_or, or_false, false_or, and_true, true_and, and_self, not_true_eq_false, not_false_eq_true, Bool.false_eq_true]
  · rw [hT]
    by_cases h0 : nsum (wiN w p) 9 = 0
    · rw [if_pos h0]
      rw [h0] at ew
      simp -implicitDefEqProofs (disch := (first | omega | assumption | exact am_isS_3 | exact am_isS_25 | exact am_isX_356 | exact am_isX_359)) only [ggR_expectOf_0, ggR_expectOf_2, ggR_expectOf_3, ggR_expectOf_4, ggR_expectOf_5, ggR_expectOf_6, ggR_expectOf_7, ggR_expectOf_8, ggR_expectOf_9, ccR_expectOf_2_1, ccR_expectOf_3_2, ccR_expectOf_3_1, ccR_expectOf_6_1, ew, am_kI_x, am_kV_x, am_kI_i, am_nI_i, am_kV_i, am_nV_i, ↓reduceIte, eq_self, if_true, if_false, c_in, c_tn, pn_add, pn_mul, pn_subc, pn_addm, c_le_t, c_le_f, c_lt_t, c_lt_f, c_eq_f, c_eqm, bi_z, bi_1, bi_b, bi_T, bi_F, ite_not, up_eq, up_ne, or_self, or_true, true_or, or_false, false_or, and_true, true_and, and_self, not_true_eq_false, not_false_eq_true, Bool.false_eq_true]
    · rw [if_neg h0]
      simp -implicitDefEqProofs (disch := (first | omega | assumption | exact am_isS_3 | exact am_isS_25 | exact am_isX_356 | exact am_isX_359)) only [ggR_expectOf_0, ggR_expectOf_2, ggR_expectOf_3, ggR_expectOf_4, ggR_expectOf_5, ggR_expectOf_6, ggR_expectOf_7, ggR_expectOf_8, ggR_expectOf_9, ccR_expectOf_2_1, ccR_expectOf_3_2, ccR_expectOf_3_1, ccR_expectOf_6_1, ew, pn_div, am_kI_x, am_kV_x, am_kI_i, am_nI_i, am_kV_i, am_nV_i, ↓reduceIte, eq_self, if_true, if_false, c_in, c_tn, pn_add, pn_mul, pn_subc, pn_addm, c_le_t, c_le_f, c_lt_t, c_lt_f, c_eq_f, c_eqm, bi_z, bi_1, bi_b, bi_T, bi_F, ite_not, up_eq, up_ne, or_self, or_true, true_or, or_false, false_or, and_true, true_and, and_self, not_true_eq_false, not_false_eq_true, Bool.false_eq_true]
/-- the likeliest on both sides -/
theorem likely_both {hC hR : am_H} {N G : Nat} (R : RelS hC 3 (hR.2 374) N G) {w : Nat → Nat} (hw : ∀ t, t < 9 → w t ≤ 9 ∧ wt (hR.2 374) t = (Int32.ofNat (w t))) (p : Nat → Bool) (hp : ∀ t, t < 9 → p t = true → w t ≠ 0) (d d' : Nat) : ∃ v, am_cl (d + 2) qE_likeliest [.ref 3, .int (bset p 9)] hC = some (.inl (some (v)), hC) ∧ am_cl (d' + 4) qR_likelyOf [.ref 373, .int (bset p 9)] hR = some (.inl (some (v)), hR) := by
  obtain ⟨v, e1, e2⟩ := lpp (Φ := am_cl (d + 1)) (Ψ := am_cl (d' + 3)) (q := qE_likeliest) (b := 1) (q' := qR_likelyOf) (b' := 1) (N := 9) (h := hC) (h' := hR) (L := fun c (s : Int32 × Int32 × Value) => [.ref 3, .int (bset p 9), .int s.1, .int s.2.1, .int (Int32.ofNat c), s.2.2]) (M := fun c (t : Int32) => [.ref 373, .int (bset p 9), .int t, .int (Int32.ofNat c)]) (P := fun c s t => s.1 = t ∧ (t = -1 ∧ s.2.1 = (Int32.ofNat 0) ∨ ∃ b, b < 9 ∧ t = (Int32.ofNat b) ∧ s.2.1 = (Int32.ofNat (w b))))
    (fun c s t hc q => by
      obtain ⟨s1, s2, s3⟩ := s
      obtain ⟨p1, p2⟩ := q
      simp only at p1 p2
      subst p1
      have ew := fun d => xE_weightIn R hw p hc d
      have eb := has_b p (N := 9) (c := c) (by omega) hc
      obtain ⟨hw1, hw2⟩ := hw c hc
      by_cases hpc : p c = true
      · have h0 := hp c hc hpc
        have ewi : wiN w p c = w c := if_pos hpc
        rw [ewi] at ew
        rcases p2 with ⟨rfl, rfl⟩ | ⟨b, hb, rfl, rfl⟩
        · refine ⟨((Int32.ofNat c), (Int32.ofNat (w c)), .int (Int32.ofNat (w c))), (Int32.ofNat c), ⟨rfl, Or.inr ⟨c, hc, rfl, rfl⟩⟩, ?_, ?_⟩
          · rw [ggE_likeliest_1]
            simp -implicitDefEqProofs (disch := (first | omega | assumption | exact am_isS_3 | exact am_isS_25 | exact am_isX_356 | exact am_isX_359)) only [ggE_likeliest_0, ggE_likeliest_2, ggE_likeliest_3, ggE_likeliest_4, ggE_likeliest_5, ccE_likeliest_2_1, ew, am_kI_x, am_kV_x, am_kI_i, am_nI_i, am_kV_i, am_nV_i, ↓reduceIte, eq_self, if_true, if_false, c_in, c_tn, pn_add, pn_mul, pn_subc, pn_addm, c_le_t, c_le_f, c_lt_t, c_lt_f, c_eq_f, c_eqm, bi_z, bi_1, bi_b, bi_T, bi_F, ite_not, up_eq, up_ne, or_self, or_true, true_or, or_false, false_or, and_true, true_and, and_self, not_true_eq_false, not_false_eq_true, Bool.false_eq_true]
          · rw [ggR_likelyOf_1]
            simp -implicitDefEqProofs (disch := (first | omega | assumption | exact am_isS_3 | exact am_isS_25 | exact am_isX_356 | exact am_isX_359)) only [ggR_likelyOf_0, ggR_likelyOf_2, ggR_likelyOf_3, ggR_likelyOf_4, ggR_likelyOf_5, ggR_likelyOf_6, ggR_likelyOf_7, ccR_likelyOf_2_1, ccR_likelyOf_4_2, ccR_likelyOf_4_1, rR_has, eb, hpc, am_kI_x, am_kV_x, am_kI_i, am_nI_i, am_kV_i, am_nV_i, ↓reduceIte, eq_self, if_true, if_false, c_in, c_tn, pn_add, pn_mul, pn_subc, pn_addm, c_le_t, c_le_f, c_lt_t, c_lt_f, c_eq_f, c_eqm, bi_z, bi_1, bi_b, bi_T, bi_F, ite_not, up_eq, up_ne, or_self, or_true, true_or, or_false, false_or, and_true, true_and, and_self, not_true_eq_false, not_false_eq_true, Bool.false_eq_true]
        · obtain ⟨hb1, hb2⟩ := hw b hb
          by_cases hq : w c ≤ w b
          · refine ⟨((Int32.ofNat b), (Int32.ofNat (w b)), .int (Int32.ofNat (w c))), (Int32.ofNat b), ⟨rfl, Or.inr ⟨b, hb, rfl, rfl⟩⟩, ?_, ?_⟩
            · rw [ggE_likeliest_1]
              simp -implicitDefEqProofs (disch := (first | omega | assumption | exact am_isS_3 | exact am_isS_25 | exact am_isX_356 | exact am_isX_359)) only [ggE_likeliest_0, ggE_likeliest_2, ggE_likeliest_3, ggE_likeliest_4, ggE_likeliest_5, ccE_likeliest_2_1, ew, am_kI_x, am_kV_x, am_kI_i, am_nI_i, am_kV_i, am_nV_i, ↓reduceIte, eq_self, if_true, if_false, c_in, c_tn, pn_add, pn_mul, pn_subc, pn_addm, c_le_t, c_le_f, c_lt_t, c_lt_f, c_eq_f, c_eqm, bi_z, bi_1, bi_b, bi_T, bi_F, ite_not, up_eq, up_ne, or_self, or_true, true_or, or_false, false_or, and_true, true_and, and_self, not_true_eq_false, not_false_eq_true, Bool.false_eq_true]
            · rw [ggR_likelyOf_1]
              simp -implicitDefEqProofs (disch := (first | omega | assumption | exact am_isS_3 | exact am_isS_25 | exact am_isX_356 | exact am_isX_359)) only [ggR_likelyOf_0, ggR_likelyOf_2, ggR_likelyOf_3, ggR_likelyOf_4, ggR_likelyOf_5, ggR_likelyOf_6, ggR_likelyOf_7, ccR_likelyOf_2_1, ccR_likelyOf_4_2, ccR_likelyOf_4_1, rR_has, eb, hpc, rR_wt, hw2, hb2, am_kI_x, am_kV_x, am_kI_i, am_nI_i, am_kV_i, am_nV_i, ↓reduceIte, eq_self, if_true, if_false, c_in, c_tn, pn_add, pn_mul, pn_subc, pn_addm, c_le_t, c_le_f, c_lt_t, c_lt_f, c_eq_f, c_eqm, bi_z, bi_1, bi_b, bi_T, bi_F, ite_not, up_eq, up_ne, or_self, or_true, true_or, or_false, false_or, and_true, true_and, and_self, not_true_eq_false, not_false_eq_true, Bool.false_eq_true]
          · refine ⟨((Int32.ofNat c), (Int32.ofNat (w c)), .int (Int32.ofNat (w c))), (Int32.ofNat c), ⟨rfl, Or.inr ⟨c, hc, rfl, rfl⟩⟩, ?_, ?_⟩
            · rw [ggE_likeliest_1]
              simp -implicitDefEqProofs (disch := (first | omega | assumption | exact am_isS_3 | exact am_isS_25 | exact am_isX_356 | exact am_isX_359)) only [ggE_likeliest_0, ggE_likeliest_2, ggE_likeliest_3, ggE_likeliest_4, ggE_likeliest_5, ccE_likeliest_2_1, ew, am_kI_x, am_kV_x, am_kI_i, am_nI_i, am_kV_i, am_nV_i, ↓reduceIte, eq_self, if_true, if_false, c_in, c_tn, pn_add, pn_mul, pn_subc, pn_addm, c_le_t, c_le_f, c_lt_t, c_lt_f, c_eq_f, c_eqm, bi_z, bi_1, bi_b, bi_T, bi_F, ite_not, up_eq, up_ne, or_self, or_true, true_or, or_false, false_or, and_true, true_and, and_self, not_true_eq_false, not_false_eq_true, Bool.false_eq_true]
            · rw [ggR_likelyOf_1]
              simp -implicitDefEqProofs (disch := (first | omega | assumption | exact am_isS_3 | exact am_isS_25 | exact am_isX_356 | exact am_isX_359)) only [ggR_likelyOf_0, ggR_likelyOf_2, ggR_likelyOf_3, ggR_likelyOf_4, ggR_likelyOf_5, ggR_likelyOf_6, ggR_likelyOf_7, ccR_likelyOf_2_1, ccR_likelyOf_4_2, ccR_likelyOf_4_1, rR_has, eb, hpc, rR_wt, hw2, hb2, am_kI_x, am_kV_x, am_kI_i, am_nI_i, am_kV_i, am_nV_i, ↓reduceIte, eq_self, if_true, if_false, c_in, c_tn, pn_add, pn_mul, pn_subc, pn_addm, c_le_t, c_le_f, c_lt_t, c_lt_f, c_eq_f, c_eqm, bi_z, bi_1, bi_b, bi_T, bi_F, ite_not, up_eq, up_ne, or_self, or_true, true_or, or_false, false_or, and_true, true_and, and_self, not_true_eq_false, not_false_eq_true, Bool.false_eq_true]
      · have ewi : wiN w p c = 0 := if_neg hpc
        rw [ewi] at ew
        have hle : ∃ m, m < 100 ∧ s2 = (Int32.ofNat m) := by
          rcases p2 with ⟨-, rfl⟩ | ⟨b, hb, -, rfl⟩
          · exact ⟨0, by omega, rfl⟩
          · exact ⟨w b, by have := (hw b hb).1; omega, rfl⟩
        obtain ⟨m, hm, rfl⟩ := hle
        refine ⟨(s1, (Int32.ofNat m), .int (Int32.ofNat 0)), s1, ⟨rfl, p2⟩, ?_, ?_⟩
        · rw [ggE_likeliest_1]
          simp -implicitDefEqProofs (disch := (first | omega | assumption | exact am_isS_3 | exact am_isS_25 | exact am_isX_356 | exact am_isX_359)) only [ggE_likeliest_0, ggE_likeliest_2, ggE_likeliest_3, ggE_likeliest_4, ggE_likeliest_5, ccE_likeliest_2_1, ew, am_kI_x, am_kV_x, am_kI_i, am_nI_i, am_kV_i, am_nV_i, ↓reduceIte, eq_self, if_true, if_false, c_in, c_tn, pn_add, pn_mul, pn_subc, pn_addm, c_le_t, c_le_f, c_lt_t, c_lt_f, c_eq_f, c_eqm, bi_z, bi_1, bi_b, bi_T, bi_F, ite_not, up_eq, up_ne, or_self, or_true, true_or, or_false, false_or, and_true, true_and, and_self, not_true_eq_false, not_false_eq_true, Bool.false_eq_true]
        · rw [ggR_likelyOf_1]
          simp -implicitDefEqProofs (disch := (first | omega | assumption | exact am_isS_3 | exact am_isS_25 | exact am_isX_356 | exact am_isX_359)) only [ggR_likelyOf_0, ggR_likelyOf_2, ggR_likelyOf_3, ggR_likelyOf_4, ggR_likelyOf_5, ggR_likelyOf_6, ggR_likelyOf_7, ccR_likelyOf_2_1, ccR_likelyOf_4_2, ccR_likelyOf_4_1, rR_has, eb, hpc, am_kI_x, am_kV_x, am_kI_i, am_nI_i, am_kV_i, am_nV_i, ↓reduceIte, eq_self, if_true, if_false, c_in, c_tn, pn_add, pn_mul, pn_subc, pn_addm, c_le_t, c_le_f, c_lt_t, c_lt_f, c_eq_f, c_eqm, bi_z, bi_1, bi_b, bi_T, bi_F, ite_not, up_eq, up_ne, or_self, or_true, true_or, or_false, false_or, and_true, true_and, and_self, not_true_eq_false, not_false_eq_true, Bool.false_eq_true])
    (fun s t q => by
      obtain ⟨s1, s2, s3⟩ := s
      refine ⟨t, ?_, ?_⟩
      · have p1 : s1 = t := q.1
        subst p1
        rw [ggE_likeliest_1]
        simp -implicitDefEqProofs (disch := (first | omega | assumption | exact am_isS_3 | exact am_isS_25 | exact am_isX_356 | exact am_isX_359)) only [ggE_likeliest_0, ggE_likeliest_2, ggE_likeliest_3, ggE_likeliest_4, ggE_likeliest_5, ccE_likeliest_2_1, am_kI_x, am_kV_x, am_kI_i, am_nI_i, am_kV_i, am_nV_i, ↓reduceIte, eq_self, if_true, if_false, c_in, c_tn, pn_add, pn_mul, pn_subc, pn_addm, c_le_t, c_le_f, c_lt_t, c_lt_f, c_eq_f, c_eqm, bi_z, bi_1, bi_b, bi_T, bi_F, ite_not, up_eq, up_ne, or_self, or_true, true_or, or_false, false_or, and_true, true_and, and_self, not_true_eq_false, not_false_eq_true, Bool.false_eq_true]
      · rw [ggR_likelyOf_1]
        simp -implicitDefEqProofs (disch := (first | omega | assumption | exact am_isS_3 | exact am_isS_25 | exact am_isX_356 | exact am_isX_359)) only [ggR_likelyOf_0, ggR_likelyOf_2, ggR_likelyOf_3, ggR_likelyOf_4, ggR_likelyOf_5, ggR_likelyOf_6, ggR_likelyOf_7, ccR_likelyOf_2_1, ccR_likelyOf_4_2, ccR_likelyOf_4_1, am_kI_x, am_kV_x, am_kI_i, am_nI_i, am_kV_i, am_nV_i, ↓reduceIte, eq_self, if_true, if_false, c_in, c_tn, pn_add, pn_mul, pn_subc, pn_addm, c_le_t, c_le_f, c_lt_t, c_lt_f, c_eq_f, c_eqm, bi_z, bi_1, bi_b, bi_T, bi_F, ite_not, up_eq, up_ne, or_self, or_true, true_or, or_false, false_or, and_true, true_and, and_self, not_true_eq_false, not_false_eq_true, Bool.false_eq_true]) 9 0 (-1, (Int32.ofNat 0), .null) (-1) (by omega) ⟨rfl, Or.inl ⟨rfl, rfl⟩⟩
  refine ⟨v, ?_, ?_⟩
  · rw [uE_likeliest, ggE_likeliest_0]; exact e1
  · rw [uR_likelyOf, ggR_likelyOf_0]; exact e2
def oddN (w : Nat → Nat) (p : Nat → Bool) (t : Nat) : Nat := if p t = true then 10000 * w t / nsum (wiN w p) 9 else 0
theorem xE_oddsOf {h : am_H} {W : Nat → Int32} {N G : Nat} (R : RelS h 3 W N G) {w : Nat → Nat} (hw : ∀ t, t < 9 → w t ≤ 9 ∧ wt W t = (Int32.ofNat (w t))) (p : Nat → Bool) (hp : ∀ t, t < 9 → p t = true → w t ≠ 0) {t : Nat} (ht : t < 9) (d : Nat) : am_cl (d + 3) qE_oddsOf [.ref 3, .int ((bset p 9)), .int (Int32.ofNat t)] h = some (.inl (some ((Int32.ofNat (oddN w p t)))), h) := by
  have ew := fun d => xE_weightsOf R hw p d
  have ei := fun d => xE_weightIn R hw p ht d
  have b1 := nsum_le (w := wiN w p) (b := 9) (n := 9) (fun t ht => wiN_le (hw t ht).1)
  have bt := (hw t ht).1
  have ge := nsum_ge (f := wiN w p) ht
  unfold oddN
  by_cases hpt : p t = true
  · have h0 := hp t ht hpt
    have ewi : wiN w p t = w t := if_pos hpt
    rw [ewi] at ei ge
    rw [if_pos hpt, Nat.mul_comm]
    simp -implicitDefEqProofs (disch := (first | omega | assumption | exact am_isS_3 | exact am_isS_25 | exact am_isX_356 | exact am_isX_359)) only [uE_oddsOf, ggE_oddsOf_0, ggE_oddsOf_1, ggE_oddsOf_2, ggE_oddsOf_3, ccE_oddsOf_0_1, ccE_oddsOf_1_1, ew, ei, pn_div, am_kI_x, am_kV_x, am_kI_i, am_nI_i, am_kV_i, am_nV_i, ↓reduceIte, eq_self, if_true, if_false, c_in, c_tn, pn_add, pn_mul, pn_subc, pn_addm, c_le_t, c_le_f, c_lt_t, c_lt_f, c_eq_f, c_eqm, bi_z, bi_1, bi_b, bi_T, bi_F, ite_not, up_eq, up_ne, or_self, or_true, true_or, or_false, false_or, and_true, true_and, and_self, not_true_eq_false, not_false_eq_true, Bool.false_eq_true]
  · have ewi : wiN w p t = 0 := if_neg hpt
    rw [ewi] at ei
    rw [if_neg hpt]
    by_cases h0 : nsum (wiN w p) 9 = 0
    · rw [h0] at ew
      simp -implicitDefEqProofs (disch := (first | omega | assumption | exact am_isS_3 | exact am_isS_25 | exact am_isX_356 | exact am_isX_359)) only [uE_oddsOf, ggE_oddsOf_0, ggE_oddsOf_1, ggE_oddsOf_2, ggE_oddsOf_3, ccE_oddsOf_0_1, ccE_oddsOf_1_1, ew, ei, am_kI_x, am_kV_x, am_kI_i, am_nI_i, am_kV_i, am_nV_i, ↓reduceIte, eq_self, if_true, if_false, c_in, c_tn, pn_add, pn_mul, pn_subc, pn_addm, c_le_t, c_le_f, c_lt_t, c_lt_f, c_eq_f, c_eqm, bi_z, bi_1, bi_b, bi_T, bi_F, ite_not, up_eq, up_ne, or_self, or_true, true_or, or_false, false_or, and_true, true_and, and_self, not_true_eq_false, not_false_eq_true, Bool.false_eq_true]
    · simp -implicitDefEqProofs (disch := (first | omega | assumption | exact am_isS_3 | exact am_isS_25 | exact am_isX_356 | exact am_isX_359)) only [uE_oddsOf, ggE_oddsOf_0, ggE_oddsOf_1, ggE_oddsOf_2, ggE_oddsOf_3, ccE_oddsOf_0_1, ccE_oddsOf_1_1, ew, ei, pn_div, Nat.zero_mul, Nat.zero_div, am_kI_x, am_kV_x, am_kI_i, am_nI_i, am_kV_i, am_nV_i, ↓reduceIte, eq_self, if_true, if_false, c_in, c_tn, pn_add, pn_mul, pn_subc, pn_addm, c_le_t, c_le_f, c_lt_t, c_lt_f, c_eq_f, c_eqm, bi_z, bi_1, bi_b, bi_T, bi_F, ite_not, up_eq, up_ne, or_self, or_true, true_or, or_false, false_or, and_true, true_and, and_self, not_true_eq_false, not_false_eq_true, Bool.false_eq_true]
