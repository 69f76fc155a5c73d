/-! what a child loosens by and leads to: the same on both sides -/
theorem am_max_comm (x y : Int32) : am_max x y = am_max y x := by
  unfold am_max
  by_cases h1 : x < y
  · rw [if_pos h1, if_neg (fun q => by rw [Int32.lt_iff_toInt_lt] at h1 q; omega)]
  · rw [if_neg h1]
    by_cases h2 : y < x
    · rw [if_pos h2]
    · rw [if_neg h2]
      apply Int32.toInt_inj.mp
      rw [Int32.lt_iff_toInt_lt] at h1 h2
      omega
theorem am_min_comm (x y : Int32) : am_min x y = am_min y x := by
  unfold am_min
  by_cases h1 : y < x
  · rw [if_pos h1, if_neg (fun q => by rw [Int32.lt_iff_toInt_lt] at h1 q; omega)]
  · rw [if_neg h1]
    by_cases h2 : x < y
    · rw [if_pos h2]
    · rw [if_neg h2]
      apply Int32.toInt_inj.mp
      rw [Int32.lt_iff_toInt_lt] at h1 h2
      omega
def scr (h h' : am_H) : Prop := h'.1 = h.1 ∧ ∀ o, o ≠ 340 → o ≠ 341 → h'.2 o = h.2 o
theorem scr.rf {h : am_H} : scr h h := ⟨rfl, fun _ _ _ => rfl⟩
theorem sub_add32 (a b x : Int32) : a + x - b = a - b + x := by
  rw [Int32.sub_eq_add_neg, Int32.sub_eq_add_neg, Int32.add_assoc, Int32.add_assoc, Int32.add_comm x]
theorem sub_add32' (a b x : Int32) : a - (b + x) = a - b + -x := by
  rw [Int32.sub_eq_add_neg, Int32.sub_eq_add_neg, Int32.neg_add, Int32.sub_eq_add_neg, Int32.add_assoc]
theorem csum0 {W : Nat → Int32} {c L : Nat} {E K : Nat → Nat} {n : Nat → Int32} (T : lawT W L E K n) : ∀ k, k ≤ L → csum W c E K n (Int32.ofNat 0) k 0 (Int32.ofNat 0) = lsum W c E K n 0 k - lsum W c E K n 1 k := by
  intro k
  induction k with
  | zero => intro _; show ((Int32.ofNat 0) : Int32) = (Int32.ofNat 0) - (Int32.ofNat 0); decide
  | succ k ih =>
    intro hk
    have ih := ih (by omega)
    unfold csum lsum at ih ⊢
    rw [itr_succ, itr_succ, itr_succ, ih, Nat.zero_add]
    obtain ⟨q, hq, eq⟩ := (T.2.2.2.2.2.1 k (by omega)).2.2.1
    unfold camt
    rw [eq]
    by_cases hh : hldb W c K n (E k) (E (k + 1)) = true
    · rcases (show q = 0 ∨ q = 1 ∨ q = 2 by omega) with rfl | rfl | rfl
      · simp -implicitDefEqProofs (disch := (first | omega | assumption | exact am_isS_3 | exact am_isS_25 | exact am_isX_356 | exact am_isX_359)) only [hh, am_kI_x, am_kV_x, am_kI_i, am_nI_i, am_kV_i, am_nV_i, ↓reduceIte, eq_self, if_true, if_false, c_in, c_tn, pn_add, pn_mul, pn_subc, pn_addm, c_le_t, c_le_f, c_lt_t, c_lt_f, c_eq_f, c_eqm, bi_z, bi_1, bi_b, bi_T, bi_F, ite_not, up_eq, up_ne, or_self, or_true, true_or, or_false, false_or, and_true, true_and, and_self, not_true_eq_false, not_false_eq_true, Bool.false_eq_true]
        exact (sub_add32 _ _ _).symm
      · simp -implicitDefEqProofs (disch := (first | omega | assumption | exact am_isS_3 | exact am_isS_25 | exact am_isX_356 | exact am_isX_359)) only [hh, am_kI_x, am_kV_x, am_kI_i, am_nI_i, am_kV_i, am_nV_i, ↓reduceIte, eq_self, if_true, if_false, c_in, c_tn, pn_add, pn_mul, pn_subc, pn_addm, c_le_t, c_le_f, c_lt_t, c_lt_f, c_eq_f, c_eqm, bi_z, bi_1, bi_b, bi_T, bi_F, ite_not, up_eq, up_ne, or_self, or_true, true_or, or_false, false_or, and_true, true_and, and_self, not_true_eq_false, not_false_eq_true, Bool.false_eq_true]
        exact (sub_add32' _ _ _).symm
      · simp -implicitDefEqProofs (disch := (first | omega | assumption | exact am_isS_3 | exact am_isS_25 | exact am_isX_356 | exact am_isX_359)) only [hh, false_and, am_kI_x, am_kV_x, am_kI_i, am_nI_i, am_kV_i, am_nV_i, ↓reduceIte, eq_self, if_true, if_false, c_in, c_tn, pn_add, pn_mul, pn_subc, pn_addm, c_le_t, c_le_f, c_lt_t, c_lt_f, c_eq_f, c_eqm, bi_z, bi_1, bi_b, bi_T, bi_F, ite_not, up_eq, up_ne, or_self, or_true, true_or, or_false, false_or, and_true, true_and, and_self, not_true_eq_false, not_false_eq_true, Bool.false_eq_true]
    · rcases (show q = 0 ∨ q = 1 ∨ q = 2 by omega) with rfl | rfl | rfl
      · simp -implicitDefEqProofs (disch := (first | omega | assumption | exact am_isS_3 | exact am_isS_25 | exact am_isX_356 | exact am_isX_359)) only [hh, false_and, and_false, am_kI_x, am_kV_x, am_kI_i, am_nI_i, am_kV_i, am_nV_i, ↓reduceIte, eq_self, if_true, if_false, c_in, c_tn, pn_add, pn_mul, pn_subc, pn_addm, c_le_t, c_le_f, c_lt_t, c_lt_f, c_eq_f, c_eqm, bi_z, bi_1, bi_b, bi_T, bi_F, ite_not, up_eq, up_ne, or_self, or_true, true_or, or_false, false_or, and_true, true_and, and_self, not_true_eq_false, not_false_eq_true, Bool.false_eq_true]
      · simp -implicitDefEqProofs (disch := (first | omega | assumption | exact am_isS_3 | exact am_isS_25 | exact am_isX_356 | exact am_isX_359)) only [hh, false_and, and_false, am_kI_x, am_kV_x, am_kI_i, am_nI_i, am_kV_i, am_nV_i, ↓reduceIte, eq_self, if_true, if_false, c_in, c_tn, pn_add, pn_mul, pn_subc, pn_addm, c_le_t, c_le_f, c_lt_t, c_lt_f, c_eq_f, c_eqm, bi_z, bi_1, bi_b, bi_T, bi_F, ite_not, up_eq, up_ne, or_self, or_true, true_or, or_false, false_or, and_true, true_and, and_self, not_true_eq_false, not_false_eq_true, Bool.false_eq_true]
      · simp -implicitDefEqProofs (disch := (first | omega | assumption | exact am_isS_3 | exact am_isS_25 | exact am_isX_356 | exact am_isX_359)) only [hh, false_and, and_false, am_kI_x, am_kV_x, am_kI_i, am_nI_i, am_kV_i, am_nV_i, ↓reduceIte, eq_self, if_true, if_false, c_in, c_tn, pn_add, pn_mul, pn_subc, pn_addm, c_le_t, c_le_f, c_lt_t, c_lt_f, c_eq_f, c_eqm, bi_z, bi_1, bi_b, bi_T, bi_F, ite_not, up_eq, up_ne, or_self, or_true, true_or, or_false, false_or, and_true, true_and, and_self, not_true_eq_false, not_false_eq_true, Bool.false_eq_true]
theorem csum1 {W : Nat → Int32} {c L : Nat} {E K : Nat → Nat} {n : Nat → Int32} (T : lawT W L E K n) : ∀ k, k ≤ L → csum W c E K n (Int32.ofNat 1) k 0 (Int32.ofNat 0) = lsum W c E K n 2 k := by
  intro k
  induction k with
  | zero => intro _; rfl
  | succ k ih =>
    intro hk
    have ih := ih (by omega)
    unfold csum lsum at ih ⊢
    rw [itr_succ, itr_succ, ih, Nat.zero_add]
    obtain ⟨q, hq, eq⟩ := (T.2.2.2.2.2.1 k (by omega)).2.2.1
    unfold camt
    rw [eq]
    by_cases hh : hldb W c K n (E k) (E (k + 1)) = true
    · rcases (show q = 0 ∨ q = 1 ∨ q = 2 by omega) with rfl | rfl | rfl
      · simp -implicitDefEqProofs (disch := (first | omega | assumption | exact am_isS_3 | exact am_isS_25 | exact am_isX_356 | exact am_isX_359)) only [hh, false_and, am_kI_x, am_kV_x, am_kI_i, am_nI_i, am_kV_i, am_nV_i, ↓reduceIte, eq_self, if_true, if_false, c_in, c_tn, pn_add, pn_mul, pn_subc, pn_addm, c_le_t, c_le_f, c_lt_t, c_lt_f, c_eq_f, c_eqm, bi_z, bi_1, bi_b, bi_T, bi_F, ite_not, up_eq, up_ne, or_self, or_true, true_or, or_false, false_or, and_true, true_and, and_self, not_true_eq_false, not_false_eq_true, Bool.false_eq_true]
      · simp -implicitDefEqProofs (disch := (first | omega | assumption | exact am_isS_3 | exact am_isS_25 | exact am_isX_356 | exact am_isX_359)) only [hh, false_and, am_kI_x, am_kV_x, am_kI_i, am_nI_i, am_kV_i, am_nV_i, ↓reduceIte, eq_self, if_true, if_false, c_in, c_tn, pn_add, pn_mul, pn_subc, pn_addm, c_le_t, c_le_f, c_lt_t, c_lt_f, c_eq_f, c_eqm, bi_z, bi_1, bi_b, bi_T, bi_F, ite_not, up_eq, up_ne, or_self, or_true, true_or, or_false, false_or, and_true, true_and, and_self, not_true_eq_false, not_false_eq_true, Bool.false_eq_true]
      · simp -implicitDefEqProofs (disch := (first | omega | assumption | exact am_isS_3 | exact am_isS_25 | exact am_isX_356 | exact am_isX_359)) only [hh, false_and, am_kI_x, am_kV_x, am_kI_i, am_nI_i, am_kV_i, am_nV_i, ↓reduceIte, eq_self, if_true, if_false, c_in, c_tn, pn_add, pn_mul, pn_subc, pn_addm, c_le_t, c_le_f, c_lt_t, c_lt_f, c_eq_f, c_eqm, bi_z, bi_1, bi_b, bi_T, bi_F, ite_not, up_eq, up_ne, or_self, or_true, true_or, or_false, false_or, and_true, true_and, and_self, not_true_eq_false, not_false_eq_true, Bool.false_eq_true]
    · rcases (show q = 0 ∨ q = 1 ∨ q = 2 by omega) with rfl | rfl | rfl
      · simp -implicitDefEqProofs (disch := (first | omega | assumption | exact am_isS_3 | exact am_isS_25 | exact am_isX_356 | exact am_isX_359)) only [hh, false_and, and_false, am_kI_x, am_kV_x, am_kI_i, am_nI_i, am_kV_i, am_nV_i, ↓reduceIte, eq_self, if_true, if_false, c_in, c_tn, pn_add, pn_mul, pn_subc, pn_addm, c_le_t, c_le_f, c_lt_t, c_lt_f, c_eq_f, c_eqm, bi_z, bi_1, bi_b, bi_T, bi_F, ite_not, up_eq, up_ne, or_self, or_true, true_or, or_false, false_or, and_true, true_and, and_self, not_true_eq_false, not_false_eq_true, Bool.false_eq_true]
      · simp -implicitDefEqProofs (disch := (first | omega | assumption | exact am_isS_3 | exact am_isS_25 | exact am_isX_356 | exact am_isX_359)) only [hh, false_and, and_false, am_kI_x, am_kV_x, am_kI_i, am_nI_i, am_kV_i, am_nV_i, ↓reduceIte, eq_self, if_true, if_false, c_in, c_tn, pn_add, pn_mul, pn_subc, pn_addm, c_le_t, c_le_f, c_lt_t, c_lt_f, c_eq_f, c_eqm, bi_z, bi_1, bi_b, bi_T, bi_F, ite_not, up_eq, up_ne, or_self, or_true, true_or, or_false, false_or, and_true, true_and, and_self, not_true_eq_false, not_false_eq_true, Bool.false_eq_true]
      · simp -implicitDefEqProofs (disch := (first | omega | assumption | exact am_isS_3 | exact am_isS_25 | exact am_isX_356 | exact am_isX_359)) only [hh, false_and, and_false, am_kI_x, am_kV_x, am_kI_i, am_nI_i, am_kV_i, am_nV_i, ↓reduceIte, eq_self, if_true, if_false, c_in, c_tn, pn_add, pn_mul, pn_subc, pn_addm, c_le_t, c_le_f, c_lt_t, c_lt_f, c_eq_f, c_eqm, bi_z, bi_1, bi_b, bi_T, bi_F, ite_not, up_eq, up_ne, or_self, or_true, true_or, or_false, false_or, and_true, true_and, and_self, not_true_eq_false, not_false_eq_true, Bool.false_eq_true]
theorem lsum_rg {W : Nat → Int32} {c L : Nat} {E K : Nat → Nat} {n : Nat → Int32} (T : lawT W L E K n) (q : Nat) : ∀ k, k ≤ L → rg (lsum W c E K n q k) (100 * k + 1) := by
  intro k
  induction k with
  | zero => intro _; exact ⟨0, by omega, rfl⟩
  | succ k ih =>
    intro hk
    obtain ⟨a, ha, ea⟩ := ih (by omega)
    unfold lsum at ea ⊢
    rw [itr_succ, ea, Nat.zero_add]
    obtain ⟨b, hb, eb⟩ := (T.2.2.2.2.2.1 k (by omega)).2.2.2
    split
    · rw [eb, pn_add]
      exact ⟨a + b, by omega, rfl⟩
    · exact ⟨a, by omega, rfl⟩
theorem m1_pos : (((Int32.ofNat 0) : Int32) < (-1 : Int32)) = False := by decide
theorem laws {h : am_H} {o : Nat} {W : Nat → Int32} (ho : am_isS o) (ho2 : o + 22 ≤ 335) (R : RelF h o W) (RL : RelL h 335 W) {c i : Nat} (hc : c < 8) (hi : i < 9) (ei : W (43 + 9 * c + 1) = (Int32.ofNat i)) : ∃ S : Nat → Int32, rg (S 2) 1201 ∧ (∀ (hR : am_H) (q d : Nat), hR.2 374 = W → q < 3 → ∃ f', am_cl (d + 6) qR_sumOf [.ref 373, .int (Int32.ofNat q), .int (Int32.ofNat c)] hR = some (.inl (some (S q)), cw hR 381 f')) ∧ (∀ d, ∃ h', am_cl (d + 3) qL_sumOf [.ref 335, .int (Int32.ofNat 0), .ref o, .int (Int32.ofNat c)] h = some (.inl (some (S 0 - S 1)), h') ∧ scr h h') ∧ (∀ d, ∃ h', am_cl (d + 3) qL_sumOf [.ref 335, .int (Int32.ofNat 1), .ref o, .int (Int32.ofNat c)] h = some (.inl (some (S 2)), h') ∧ scr h h') := by
  rcases RL.2 with ⟨e2, el⟩ | ⟨e2, L, E, K, n, T, C⟩
  · refine ⟨fun _ => (Int32.ofNat 0), ⟨0, by omega, rfl⟩, fun hR q d hW hq => ⟨hR.2 381, ?_⟩, fun d => ⟨h, ?_, scr.rf⟩, fun d => ⟨h, ?_, scr.rf⟩⟩
    · rw [cw_self]
      exact rR_sumOf0 (by rw [hW]; exact e2) _ _ d
    · have : ((Int32.ofNat 0) - (Int32.ofNat 0) : Int32) = (Int32.ofNat 0) := by decide
      simp -implicitDefEqProofs (disch := (first | omega | assumption | exact am_isS_3 | exact am_isS_25 | exact am_isX_356 | exact am_isX_359)) only [uL_sumOf, ggL_sumOf_0, ggL_sumOf_1, ggL_sumOf_2, ggL_sumOf_4, ggL_sumOf_5, ggL_sumOf_6, ggL_sumOf_7, ggL_sumOf_8, ccL_sumOf_2_1, ccL_sumOf_5_1, el, m1_pos, this, am_kI_x, am_kV_x, am_kI_i, am_nI_i, am_kV_i, am_nV_i, ↓reduceIte, eq_self, if_true, if_false, c_in, c_tn, pn_add, pn_mul, pn_subc, pn_addm, c_le_t, c_le_f, c_lt_t, c_lt_f, c_eq_f, c_eqm, bi_z, bi_1, bi_b, bi_T, bi_F, ite_not, up_eq, up_ne, or_self, or_true, true_or, or_false, false_or, and_true, true_and, and_self, not_true_eq_false, not_false_eq_true, Bool.false_eq_true]
    · simp -implicitDefEqProofs (disch := (first | omega | assumption | exact am_isS_3 | exact am_isS_25 | exact am_isX_356 | exact am_isX_359)) only [uL_sumOf, ggL_sumOf_0, ggL_sumOf_1, ggL_sumOf_2, ggL_sumOf_4, ggL_sumOf_5, ggL_sumOf_6, ggL_sumOf_7, ggL_sumOf_8, ccL_sumOf_2_1, ccL_sumOf_5_1, el, m1_pos, am_kI_x, am_kV_x, am_kI_i, am_nI_i, am_kV_i, am_nV_i, ↓reduceIte, eq_self, if_true, if_false, c_in, c_tn, pn_add, pn_mul, pn_subc, pn_addm, c_le_t, c_le_f, c_lt_t, c_lt_f, c_eq_f, c_eqm, bi_z, bi_1, bi_b, bi_T, bi_F, ite_not, up_eq, up_ne, or_self, or_true, true_or, or_false, false_or, and_true, true_and, and_self, not_true_eq_false, not_false_eq_true, Bool.false_eq_true]
  · refine ⟨fun q => lsum W c E K n q L, rg_mono (lsum_rg T 2 L (Nat.le_refl _)) (by have := T.1; omega), fun hR q d hW hq => ?_, ?_⟩
    · subst hW
      obtain ⟨f', e⟩ := rR_sumOf T e2 hc hi ei hq (hR.2 381) d
      rw [cw_self] at e
      exact ⟨f', e⟩
    · have key : ∀ (b : Int32) (d : Nat), (b = (Int32.ofNat 0) ∨ b = (Int32.ofNat 1)) → ∃ h', am_cl (d + 3) qL_sumOf [.ref 335, .int b, .ref o, .int (Int32.ofNat c)] h = some (.inl (some (csum W c E K n b L 0 (Int32.ofNat 0))), h') ∧ scr h h' := by
        intro b d hb
        by_cases hL : L = 0
        · subst hL
          refine ⟨h, ?_, scr.rf⟩
          have el := C.1
          simp -implicitDefEqProofs (disch := (first | omega | assumption | exact am_isS_3 | exact am_isS_25 | exact am_isX_356 | exact am_isX_359)) only [uL_sumOf, ggL_sumOf_0, ggL_sumOf_1, ggL_sumOf_2, ggL_sumOf_4, ggL_sumOf_5, ggL_sumOf_6, ggL_sumOf_7, ggL_sumOf_8, ccL_sumOf_2_1, ccL_sumOf_5_1, el, csum, itr, am_kI_x, am_kV_x, am_kI_i, am_nI_i, am_kV_i, am_nV_i, ↓reduceIte, eq_self, if_true, if_false, c_in, c_tn, pn_add, pn_mul, pn_subc, pn_addm, c_le_t, c_le_f, c_lt_t, c_lt_f, c_eq_f, c_eqm, bi_z, bi_1, bi_b, bi_T, bi_F, ite_not, up_eq, up_ne, or_self, or_true, true_or, or_false, false_or, and_true, true_and, and_self, not_true_eq_false, not_false_eq_true, Bool.false_eq_true]
        · have t1 := T.1
          have e0 := xL_lookAt ho ho2 R hc hi ei (h.2 340) d
          rw [cw_self] at e0
          have C' : lawC (cw h 340 (ftab W c (h.2 340))) 335 W L E K n := by
            obtain ⟨c1, c2, c3⟩ := C
            refine ⟨?_, fun i hi => ?_, fun j hj => ?_⟩
            · rw [cw_ne (by omega)]; exact c1
            · rw [cw_ne (by omega), cw_ne (by omega), cw_ne (by omega)]; exact c2 i hi
            · rw [cw_ne (by omega)]; exact c3 j hj
          obtain ⟨g', e⟩ := xL_sumOf_l T C' (c := c) (fun k hk => by rw [cw_eq]; exact ftab_at hk) o ho b d L 0 (Int32.ofNat 0) ((cw h 340 (ftab W c (h.2 340))).2 341) (by omega)
          rw [cw_self, T.2.2.1] at e
          refine ⟨cw (cw h 340 (ftab W c (h.2 340))) 341 g', ?_, rfl, fun p h1 h2 => ?_⟩
          · have el := C.1
            simp -implicitDefEqProofs (disch := (first | omega | assumption | exact am_isS_3 | exact am_isS_25 | exact am_isX_356 | exact am_isX_359)) only [uL_sumOf, ggL_sumOf_0, ggL_sumOf_1, ggL_sumOf_2, ggL_sumOf_4, ggL_sumOf_5, ggL_sumOf_6, ggL_sumOf_7, ggL_sumOf_8, ccL_sumOf_2_1, ccL_sumOf_5_1, el, e0, am_kI_x, am_kV_x, am_kI_i, am_nI_i, am_kV_i, am_nV_i, ↓reduceIte, eq_self, if_true, if_false, c_in, c_tn, pn_add, pn_mul, pn_subc, pn_addm, c_le_t, c_le_f, c_lt_t, c_lt_f, c_eq_f, c_eqm, bi_z, bi_1, bi_b, bi_T, bi_F, ite_not, up_eq, up_ne, or_self, or_true, true_or, or_false, false_or, and_true, true_and, and_self, not_true_eq_false, not_false_eq_true, Bool.false_eq_true]
            exact e
          · rw [cw_ne h2, cw_ne h1]
      refine ⟨fun d => ?_, fun d => ?_⟩
      · obtain ⟨h', e, s⟩ := key (Int32.ofNat 0) d (Or.inl rfl)
        exact ⟨h', by rw [e, csum0 T L (Nat.le_refl _)], s⟩
      · obtain ⟨h', e, s⟩ := key (Int32.ofNat 1) d (Or.inr rfl)
        exact ⟨h', by rw [e, csum1 T L (Nat.le_refl _)], s⟩
/-- what a child loosens by -/
theorem loosens_both {h : am_H} {o : Nat} {W : Nat → Int32} (ho : am_isS o) (ho2 : o + 22 ≤ 335) (R : RelF h o W) (RL : RelL h 335 W) {c i : Nat} (hc : c < 8) (hi : i < 9) (ei : W (43 + 9 * c + 1) = (Int32.ofNat i)) : ∃ v : Int32, (∀ (hR : am_H) (d : Nat), hR.2 374 = W → ∃ f', am_cl (d + 7) qR_loosensBy [.ref 373, .int (Int32.ofNat c)] hR = some (.inl (some (v)), cw hR 381 f')) ∧ (∀ d, ∃ h', am_cl (d + 4) qL_loosens [.ref 335, .ref o, .int (Int32.ofNat c)] h = some (.inl (some (v)), h') ∧ scr h h') := by
  obtain ⟨S, -, s1, s2, -⟩ := laws ho ho2 R RL hc hi ei
  refine ⟨am_max (Int32.ofNat 0) ((((Int32.ofNat 10) + S 0) - ((Int32.ofNat 5) * W (43 + 9 * c + 3))) - S 1), fun hR d hW => ?_, fun d => ?_⟩
  · obtain ⟨f1, e1⟩ := s1 hR 0 d hW (by omega)
    obtain ⟨f2, e2⟩ := s1 (cw hR 381 f1) 1 d (by rw [cw_ne (by omega)]; exact hW) (by omega)
    refine ⟨f2, ?_⟩
    have e3 : cw (cw hR 381 f1) 381 f2 = cw hR 381 f2 := by
      unfold cw
      simp only
      congr 1
      funext o'
      by_cases hq : o' = 381
      · rw [if_pos hq, if_pos hq]
      · rw [if_neg hq, if_neg hq, if_neg hq]
    simp -implicitDefEqProofs (disch := (first | omega | assumption | exact am_isS_3 | exact am_isS_25 | exact am_isX_356 | exact am_isX_359)) only [uR_loosensBy, ggR_loosensBy_0, ccR_loosensBy_0_3, ccR_loosensBy_0_2, ccR_loosensBy_0_1, e1, rR_of, e2, e3, cw_ne, hW, am_kI_x, am_kV_x, am_kI_i, am_nI_i, am_kV_i, am_nV_i, ↓reduceIte, eq_self, if_true, if_false, c_in, c_tn, pn_add, pn_mul, pn_subc, pn_addm, c_le_t, c_le_f, c_lt_t, c_lt_f, c_eq_f, c_eqm, bi_z, bi_1, bi_b, bi_T, bi_F, ite_not, up_eq, up_ne, or_self, or_true, true_or, or_false, false_or, and_true, true_and, and_self, not_true_eq_false, not_false_eq_true, Bool.false_eq_true]
  · obtain ⟨h', e, s⟩ := s2 d
    refine ⟨h', ?_, s⟩
    have r12 := R.2.2 3 c (by omega) hc
    have e3 : am_max (((Int32.ofNat 10) - ((Int32.ofNat 5) * W (43 + 9 * c + 3))) + (S 0 - S 1)) (Int32.ofNat 0) = am_max (Int32.ofNat 0) ((((Int32.ofNat 10) + S 0) - ((Int32.ofNat 5) * W (43 + 9 * c + 3))) - S 1) := by
      rw [am_max_comm]
      congr 1
      rw [sub_add32 (Int32.ofNat 10), Int32.sub_eq_add_neg (S 0), Int32.sub_eq_add_neg _ (S 1), Int32.add_assoc]
    simp -implicitDefEqProofs (disch := (first | omega | assumption | exact am_isS_3 | exact am_isS_25 | exact am_isX_356 | exact am_isX_359)) only [uL_loosens, ggL_loosens_0, ccL_loosens_0_1, e, r12, e3, am_kI_x, am_kV_x, am_kI_i, am_nI_i, am_kV_i, am_nV_i, ↓reduceIte, eq_self, if_true, if_false, c_in, c_tn, pn_add, pn_mul, pn_subc, pn_addm, c_le_t, c_le_f, c_lt_t, c_lt_f, c_eq_f, c_eqm, bi_z, bi_1, bi_b, bi_T, bi_F, ite_not, up_eq, up_ne, or_self, or_true, true_or, or_false, false_or, and_true, true_and, and_self, not_true_eq_false, not_false_eq_true, Bool.false_eq_true]
theorem leads_both {h : am_H} {o : Nat} {W : Nat → Int32} (ho : am_isS o) (ho2 : o + 22 ≤ 335) (R : RelF h o W) (ok : okT W) (RL : RelL h 335 W) {c i : Nat} (hc : c < 8) (hi : i < 9) (ei : W (43 + 9 * c + 1) = (Int32.ofNat i)) : ∃ v : Int32, rg v 1300 ∧ (∀ (hR : am_H) (d : Nat), hR.2 374 = W → ∃ f', am_cl (d + 7) qR_leadsTo [.ref 373, .int (Int32.ofNat c)] hR = some (.inl (some (v)), cw hR 381 f')) ∧ (∀ d, ∃ h', am_cl (d + 4) qL_leads [.ref 335, .ref o, .int (Int32.ofNat c)] h = some (.inl (some (v)), h') ∧ scr h h') := by
  obtain ⟨S, ⟨m, hm, em⟩, s1, -, s2⟩ := laws ho ho2 R RL hc hi ei
  refine ⟨W (7 + 4 * i + 3) + S 2, ?_, fun hR d hW => ?_, fun d => ?_⟩
  · have : rg (W (7 + 4 * i + 3)) 100 := by
      by_cases h8 : i = 8
      · subst h8; exact ⟨0, by omega, ok.2.2.2.2.2.1⟩
      · exact (ok.2.2.2.2.2.2 i (by omega)).2.2.2
    obtain ⟨w, hw, ew⟩ := this
    rw [ew, em, pn_add]
    exact ⟨w + m, by omega, rfl⟩
  · obtain ⟨f1, e1⟩ := s1 hR 2 d hW (by omega)
    refine ⟨f1, ?_⟩
    simp -implicitDefEqProofs (disch := (first | omega | assumption | exact am_isS_3 | exact am_isS_25 | exact am_isX_356 | exact am_isX_359)) only [uR_leadsTo, ggR_leadsTo_0, ccR_leadsTo_0_3, ccR_leadsTo_0_2, ccR_leadsTo_0_1, e1, rR_of, rR_ofThing, hW, ei, am_kI_x, am_kV_x, am_kI_i, am_nI_i, am_kV_i, am_nV_i, ↓reduceIte, eq_self, if_true, if_false, c_in, c_tn, pn_add, pn_mul, pn_subc, pn_addm, c_le_t, c_le_f, c_lt_t, c_lt_f, c_eq_f, c_eqm, bi_z, bi_1, bi_b, bi_T, bi_F, ite_not, up_eq, up_ne, or_self, or_true, true_or, or_false, false_or, and_true, true_and, and_self, not_true_eq_false, not_false_eq_true, Bool.false_eq_true]
  · obtain ⟨h', e, s⟩ := s2 d
    refine ⟨h', ?_, s⟩
    have r12 := R.2.2 1 c (by omega) hc
    have r11 := R.2.1 3 i (by omega) hi (by omega)
    simp -implicitDefEqProofs (disch := (first | omega | assumption | exact am_isS_3 | exact am_isS_25 | exact am_isX_356 | exact am_isX_359)) only [uL_leads, ggL_leads_0, ccL_leads_0_1, e, r12, ei, r11, am_kI_x, am_kV_x, am_kI_i, am_nI_i, am_kV_i, am_nV_i, ↓reduceIte, eq_self, if_true, if_false, c_in, c_tn, pn_add, pn_mul, pn_subc, pn_addm, c_le_t, c_le_f, c_lt_t, c_lt_f, c_eq_f, c_eqm, bi_z, bi_1, bi_b, bi_T, bi_F, ite_not, up_eq, up_ne, or_self, or_true, true_or, or_false, false_or, and_true, true_and, and_self, not_true_eq_false, not_false_eq_true, Bool.false_eq_true]
