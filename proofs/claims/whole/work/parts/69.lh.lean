/-! a line's condition: the class's stack -/
def cR (x : Int32) (k : Nat) (n : Int32) : Prop := (k = 11 ∧ ∃ m, m < 1000 ∧ x = (Int32.ofNat m) ∧ n = (Int32.ofNat m)) ∨ (k ≤ 10 ∧ x = (Int32.ofNat (1000 + k))) ∨ (k = 12 ∧ x = (Int32.ofNat 1243)) ∨ (k = 13 ∧ x = (Int32.ofNat 1260)) ∨ (k = 14 ∧ x = (Int32.ofNat 1262)) ∨ (k = 15 ∧ x = (Int32.ofNat 1013)) ∨ (k = 16 ∧ x = (Int32.ofNat 1011)) ∨ (k = 17 ∧ x = (Int32.ofNat 1012))
theorem xL_joined_12 (d : Nat) (a b : Int32) (h : am_H) : am_cl (d + 1) qL_joined [.int (Int32.ofNat 1243), .int a, .int b] h = some (.inl (some (a + b)), h) := by simp -implicitDefEqProofs (disch := (first | omega | assumption | exact am_isS_3 | exact am_isS_25 | exact am_isX_356 | exact am_isX_359)) only [uL_joined, ggL_joined_0, w9_1011, w9_1243, w9_1260, w9_1262, ggL_joined_1, ggL_joined_2, ggL_joined_3, ggL_joined_4, ggL_joined_5, ggL_joined_6, ggL_joined_7, ggL_joined_8, ggL_joined_9, ggL_joined_10, ggL_joined_11, am_kI_x, am_kV_x, am_kI_i, am_nI_i, am_kV_i, am_nV_i, ↓reduceIte, eq_self, if_true, if_false, c_in, c_tn, pn_add, pn_mul, pn_subc, pn_addm, c_le_t, c_le_f, c_lt_t, c_lt_f, c_eq_f, c_eqm, bi_z, bi_1, bi_b, bi_T, bi_F, ite_not, up_eq, up_ne, or_self, or_true, true_or, or_false, false_or, and_true, true_and, and_self, not_true_eq_false, not_false_eq_true, Bool.false_eq_true]
theorem xL_joined_13 (d : Nat) (a b : Int32) (h : am_H) : am_cl (d + 1) qL_joined [.int (Int32.ofNat 1260), .int a, .int b] h = some (.inl (some (bi (a < b))), h) := by simp -implicitDefEqProofs (disch := (first | omega | assumption | exact am_isS_3 | exact am_isS_25 | exact am_isX_356 | exact am_isX_359)) only [uL_joined, ggL_joined_0, w9_1011, w9_1243, w9_1260, w9_1262, ggL_joined_1, ggL_joined_2, ggL_joined_3, ggL_joined_4, ggL_joined_5, ggL_joined_6, ggL_joined_7, ggL_joined_8, ggL_joined_9, ggL_joined_10, ggL_joined_11, fold_bn, le_bi, am_kI_x, am_kV_x, am_kI_i, am_nI_i, am_kV_i, am_nV_i, ↓reduceIte, eq_self, if_true, if_false, c_in, c_tn, pn_add, pn_mul, pn_subc, pn_addm, c_le_t, c_le_f, c_lt_t, c_lt_f, c_eq_f, c_eqm, bi_z, bi_1, bi_b, bi_T, bi_F, ite_not, up_eq, up_ne, or_self, or_true, true_or, or_false, false_or, and_true, true_and, and_self, not_true_eq_false, not_false_eq_true, Bool.false_eq_true]
theorem xL_joined_14 (d : Nat) (a b : Int32) (h : am_H) : am_cl (d + 1) qL_joined [.int (Int32.ofNat 1262), .int a, .int b] h = some (.inl (some (bi (b < a))), h) := by simp -implicitDefEqProofs (disch := (first | omega | assumption | exact am_isS_3 | exact am_isS_25 | exact am_isX_356 | exact am_isX_359)) only [uL_joined, ggL_joined_0, w9_1011, w9_1243, w9_1260, w9_1262, ggL_joined_1, ggL_joined_2, ggL_joined_3, ggL_joined_4, ggL_joined_5, ggL_joined_6, ggL_joined_7, ggL_joined_8, ggL_joined_9, ggL_joined_10, ggL_joined_11, fold_bn, le_bi, am_kI_x, am_kV_x, am_kI_i, am_nI_i, am_kV_i, am_nV_i, ↓reduceIte, eq_self, if_true, if_false, c_in, c_tn, pn_add, pn_mul, pn_subc, pn_addm, c_le_t, c_le_f, c_lt_t, c_lt_f, c_eq_f, c_eqm, bi_z, bi_1, bi_b, bi_T, bi_F, ite_not, up_eq, up_ne, or_self, or_true, true_or, or_false, false_or, and_true, true_and, and_self, not_true_eq_false, not_false_eq_true, Bool.false_eq_true]
theorem xL_joined_16 (d : Nat) (a b : Int32) (h : am_H) : am_cl (d + 1) qL_joined [.int (Int32.ofNat 1011), .int a, .int b] h = some (.inl (some (a &&& b)), h) := by simp -implicitDefEqProofs (disch := (first | omega | assumption | exact am_isS_3 | exact am_isS_25 | exact am_isX_356 | exact am_isX_359)) only [uL_joined, ggL_joined_0, w9_1011, w9_1243, w9_1260, w9_1262, ggL_joined_1, ggL_joined_2, ggL_joined_3, ggL_joined_4, ggL_joined_5, ggL_joined_6, ggL_joined_7, ggL_joined_8, ggL_joined_9, ggL_joined_10, ggL_joined_11, am_kI_x, am_kV_x, am_kI_i, am_nI_i, am_kV_i, am_nV_i, ↓reduceIte, eq_self, if_true, if_false, c_in, c_tn, pn_add, pn_mul, pn_subc, pn_addm, c_le_t, c_le_f, c_lt_t, c_lt_f, c_eq_f, c_eqm, bi_z, bi_1, bi_b, bi_T, bi_F, ite_not, up_eq, up_ne, or_self, or_true, true_or, or_false, false_or, and_true, true_and, and_self, not_true_eq_false, not_false_eq_true, Bool.false_eq_true]
theorem w9_1012 : am_sf (am_swt 9) 11 (Int32.ofNat 1012) = 11 := by decide +kernel
theorem xL_joined_17 (d : Nat) (a b : Int32) (h : am_H) : am_cl (d + 1) qL_joined [.int (Int32.ofNat 1012), .int a, .int b] h = some (.inl (some (a ||| b)), h) := by simp -implicitDefEqProofs (disch := (first | omega | assumption | exact am_isS_3 | exact am_isS_25 | exact am_isX_356 | exact am_isX_359)) only [uL_joined, ggL_joined_0, w9_1011, w9_1243, w9_1260, w9_1262, ggL_joined_1, ggL_joined_2, ggL_joined_3, ggL_joined_4, ggL_joined_5, ggL_joined_6, ggL_joined_7, ggL_joined_8, ggL_joined_9, ggL_joined_10, ggL_joined_11, w9_1012, am_kI_x, am_kV_x, am_kI_i, am_nI_i, am_kV_i, am_nV_i, ↓reduceIte, eq_self, if_true, if_false, c_in, c_tn, pn_add, pn_mul, pn_subc, pn_addm, c_le_t, c_le_f, c_lt_t, c_lt_f, c_eq_f, c_eqm, bi_z, bi_1, bi_b, bi_T, bi_F, ite_not, up_eq, up_ne, or_self, or_true, true_or, or_false, false_or, and_true, true_and, and_self, not_true_eq_false, not_false_eq_true, Bool.false_eq_true]
theorem and_bi {a b : Int32} (ha : a = (Int32.ofNat 0) ∨ a = (Int32.ofNat 1)) (hb : b = (Int32.ofNat 0) ∨ b = (Int32.ofNat 1)) : a &&& b = bi (a + b = (Int32.ofNat 2)) := by
  rcases ha with rfl | rfl
  · rcases hb with rfl | rfl
    · decide
    · decide
  · rcases hb with rfl | rfl
    · decide
    · decide
theorem or_bi {a b : Int32} (ha : a = (Int32.ofNat 0) ∨ a = (Int32.ofNat 1)) (hb : b = (Int32.ofNat 0) ∨ b = (Int32.ofNat 1)) : a ||| b = bi ((Int32.ofNat 0) < a + b) := by
  rcases ha with rfl | rfl
  · rcases hb with rfl | rfl
    · decide
    · decide
  · rcases hb with rfl | rfl
    · decide
    · decide
set_option maxHeartbeats 4000000 in
theorem xL_holds_l {h0 : am_H} {to : Nat} (hto : to ≤ 400) {W : Nat → Int32} {c : Nat} (hF : ∀ k, k ≤ 10 → h0.2 340 k = fct W c k) {K : Nat → Nat} {n : Nat → Int32} (hK : ∀ j, j < to → cR (h0.2 339 j) (K j) (n j)) (d : Nat) :
    ∀ (k j : Nat) (ts : List Bool) (f s : Nat → Int32), j + k = to → tyR K k j ts = some [true] → tyI ts s → (∀ i, i < ts.length → f i = s i) → ∀ x1 x5, ∃ f', am_go (am_cl (d + 1)) qL_holds 3 [.ref 335, .int x1, .int (Int32.ofNat to), .int (Int32.ofNat (ts.length)), .int (Int32.ofNat j), x5] [] (cw h0 341 f) = some (.inl (some (bi ((evR (fct W c) K n k j (s, ts.length)).1 0 = (Int32.ofNat 1)))), cw h0 341 f') := by
  intro k
  induction k with
  | zero =>
    intro j ts f s hj ht hI hf x1 x5
    have ht : ts = [true] := by simpa [tyR] using ht
    subst ht
    refine ⟨f, ?_⟩
    have e0 : f 0 = s 0 := hf 0 (by simp)
    have ej : j = to := by omega
    subst ej
    show _ = (some (.inl (some (bi (s 0 = (Int32.ofNat 1)))), cw h0 341 f) : Option am_R)
    rw [ggL_holds_3]
    rcases hI.1 rfl with hq | hq
    · have hq : s 0 = (Int32.ofNat 0) := hq
      simp -implicitDefEqProofs (disch := (first | omega | assumption | exact am_isS_3 | exact am_isS_25 | exact am_isX_356 | exact am_isX_359)) only [ggL_holds_0, ggL_holds_1, ggL_holds_2, ggL_holds_4, ggL_holds_5, ggL_holds_6, ggL_holds_7, ggL_holds_8, ggL_holds_9, ggL_holds_10, ggL_holds_11, ggL_holds_12, ggL_holds_13, ggL_holds_14, ggL_holds_15, ggL_holds_16, ggL_holds_17, ggL_holds_18, ggL_holds_19, ggL_holds_20, ggL_holds_21, ggL_holds_22, ggL_holds_23, ccL_holds_17_1, cw_ne, cw_eq, e0, hq, List.length_cons, List.length_nil, bi_f, am_kI_x, am_kV_x, am_kI_i, am_nI_i, am_kV_i, am_nV_i, ↓reduceIte, eq_self, if_true, if_false, c_in, c_tn, pn_add, pn_mul, pn_subc, pn_addm, c_le_t, c_le_f, c_lt_t, c_lt_f, c_eq_f, c_eqm, bi_z, bi_1, bi_b, bi_T, bi_F, ite_not, up_eq, up_ne, or_self, or_true, true_or, or_false, false_or, and_true, true_and, and_self, not_true_eq_false, not_false_eq_true, Bool.false_eq_true]
    · have hq : s 0 = (Int32.ofNat 1) := hq
      simp -implicitDefEqProofs (disch := (first | omega | assumption | exact am_isS_3 | exact am_isS_25 | exact am_isX_356 | exact am_isX_359)) only [ggL_holds_0, ggL_holds_1, ggL_holds_2, ggL_holds_4, ggL_holds_5, ggL_holds_6, ggL_holds_7, ggL_holds_8, ggL_holds_9, ggL_holds_10, ggL_holds_11, ggL_holds_12, ggL_holds_13, ggL_holds_14, ggL_holds_15, ggL_holds_16, ggL_holds_17, ggL_holds_18, ggL_holds_19, ggL_holds_20, ggL_holds_21, ggL_holds_22, ggL_holds_23, ccL_holds_17_1, cw_ne, cw_eq, e0, hq, List.length_cons, List.length_nil, bi_t, am_kI_x, am_kV_x, am_kI_i, am_nI_i, am_kV_i, am_nV_i, ↓reduceIte, eq_self, if_true, if_false, c_in, c_tn, pn_add, pn_mul, pn_subc, pn_addm, c_le_t, c_le_f, c_lt_t, c_lt_f, c_eq_f, c_eqm, bi_z, bi_1, bi_b, bi_T, bi_F, ite_not, up_eq, up_ne, or_self, or_true, true_or, or_false, false_or, and_true, true_and, and_self, not_true_eq_false, not_false_eq_true, Bool.false_eq_true]
  | succ k ih =>
    intro j ts f s hj ht hI hf x1 x5
    have eK := hK j (by omega)
    cases e1 : tyk (K j) ts with
    | none => simp [tyR, e1] at ht
    | some ts' =>
      have ht' : tyR K k (j + 1) ts' = some [true] := by simpa [tyR, e1] using ht
      have hty := ev1_ty (W := W) (c := c) (n := n j) e1 hI
      obtain ⟨hl24, hcs⟩ := tyk_cases e1
      have key : ∀ f', (∀ i, i < ts'.length → f' i = (ev1 (fct W c) (K j) (n j) (s, ts.length)).1 i) → ∀ y5, ∃ f'', am_go (am_cl (d + 1)) qL_holds 3 [.ref 335, .int x1, .int (Int32.ofNat to), .int (Int32.ofNat (ts'.length)), .int (Int32.ofNat (j + 1)), y5] [] (cw h0 341 f') = some (.inl (some (bi ((evR (fct W c) K n (k + 1) j (s, ts.length)).1 0 = (Int32.ofNat 1)))), cw h0 341 f'') := fun f' hf' y5 => by
        have q := ih (j + 1) ts' f' (ev1 (fct W c) (K j) (n j) (s, ts.length)).1 (by omega) ht' hty.2 hf' x1 y5
        have e2 : ((ev1 (fct W c) (K j) (n j) (s, ts.length)).1, ts'.length) = ev1 (fct W c) (K j) (n j) (s, ts.length) := by rw [← hty.1]
        rw [e2] at q
        exact q
      unfold cR at eK
      rcases hcs with ⟨hk, rfl⟩ | ⟨hk, r, rfl, rfl⟩ | ⟨hk, r, rfl, rfl⟩ | ⟨hk, r, rfl, rfl⟩ | ⟨hk, r, rfl, rfl⟩
      · have ee : (ev1 (fct W c) (K j) (n j) (s, ts.length)).1 = pu s ts.length (if K j = 11 then n j else fct W c (K j)) := by
          unfold ev1
          rw [if_pos hk]
        obtain ⟨f'', e⟩ := key (pu f ts.length (if K j = 11 then n j else fct W c (K j))) (fun i hi => by
          rw [ee]
          by_cases hq : i = ts.length
          · rw [pu_eq hq, pu_eq hq]
          · rw [pu_ne hq, pu_ne hq]
            exact hf i (by simp at hi; omega)) (.int (h0.2 339 j))
        refine ⟨f'', ?_⟩
        rw [ggL_holds_3]
        by_cases h11 : K j = 11
        · obtain ⟨m, hm, ex, en⟩ : ∃ m, m < 1000 ∧ h0.2 339 j = (Int32.ofNat m) ∧ n j = (Int32.ofNat m) := by
            rcases eK with q | q | q | q | q | q | q | q
            · exact q.2
            all_goals exfalso; omega
          rw [if_pos h11, ex, en] at e
          simp -implicitDefEqProofs (disch := (first | omega | assumption | exact am_isS_3 | exact am_isS_25 | exact am_isX_356 | exact am_isX_359)) only [ggL_holds_0, ggL_holds_1, ggL_holds_2, ggL_holds_4, ggL_holds_5, ggL_holds_6, ggL_holds_7, ggL_holds_8, ggL_holds_9, ggL_holds_10, ggL_holds_11, ggL_holds_12, ggL_holds_13, ggL_holds_14, ggL_holds_15, ggL_holds_16, ggL_holds_17, ggL_holds_18, ggL_holds_19, ggL_holds_20, ggL_holds_21, ggL_holds_22, ggL_holds_23, ccL_holds_17_1, cw_ne, cw_eq, cw_up, ex, k_341, n_341, am_kI_x, am_kV_x, am_kI_i, am_nI_i, am_kV_i, am_nV_i, ↓reduceIte, eq_self, if_true, if_false, c_in, c_tn, pn_add, pn_mul, pn_subc, pn_addm, c_le_t, c_le_f, c_lt_t, c_lt_f, c_eq_f, c_eqm, bi_z, bi_1, bi_b, bi_T, bi_F, ite_not, up_eq, up_ne, or_self, or_true, true_or, or_false, false_or, and_true, true_and, and_self, not_true_eq_false, not_false_eq_true, Bool.false_eq_true]
          exact e
        · have ex : h0.2 339 j = (Int32.ofNat (1000 + K j)) := by
            rcases eK with q | q | q | q | q | q | q | q
            · exfalso; omega
            · exact q.2
            all_goals exfalso; omega
          have hk10 : K j ≤ 10 := by omega
          rw [if_neg h11, ex] at e
          simp -implicitDefEqProofs (disch := (first | omega | assumption | exact am_isS_3 | exact am_isS_25 | exact am_isX_356 | exact am_isX_359)) only [ggL_holds_0, ggL_holds_1, ggL_holds_2, ggL_holds_4, ggL_holds_5, ggL_holds_6, ggL_holds_7, ggL_holds_8, ggL_holds_9, ggL_holds_10, ggL_holds_11, ggL_holds_12, ggL_holds_13, ggL_holds_14, ggL_holds_15, ggL_holds_16, ggL_holds_17, ggL_holds_18, ggL_holds_19, ggL_holds_20, ggL_holds_21, ggL_holds_22, ggL_holds_23, ccL_holds_17_1, cw_ne, cw_eq, cw_up, ex, k_341, n_341, Nat.add_sub_cancel_left, hF, am_kI_x, am_kV_x, am_kI_i, am_nI_i, am_kV_i, am_nV_i, ↓reduceIte, eq_self, if_true, if_false, c_in, c_tn, pn_add, pn_mul, pn_subc, pn_addm, c_le_t, c_le_f, c_lt_t, c_lt_f, c_eq_f, c_eqm, bi_z, bi_1, bi_b, bi_T, bi_F, ite_not, up_eq, up_ne, or_self, or_true, true_or, or_false, false_or, and_true, true_and, and_self, not_true_eq_false, not_false_eq_true, Bool.false_eq_true]
          exact e
      · have hr : r.length < 24 := by simp only [List.length_cons] at hl24; omega
        have ee : (ev1 (fct W c) (K j) (n j) (s, (true :: r).length)).1 = pu s r.length ((Int32.ofNat 1) - s r.length) := by
          unfold ev1
          rw [if_neg (by omega), if_pos hk]
          rfl
        have ex : h0.2 339 j = (Int32.ofNat 1013) := by
          rcases eK with q | q | q | q | q | q | q | q
          · exfalso; omega
          · exfalso; omega
          · exfalso; omega
          · exfalso; omega
          · exfalso; omega
          · exact q.2
          all_goals exfalso; omega
        obtain ⟨f'', e⟩ := key (pu f r.length ((Int32.ofNat 1) - s r.length)) (fun i hi => by
          rw [ee]
          by_cases hq : i = r.length
          · rw [pu_eq hq, pu_eq hq]
          · rw [pu_ne hq, pu_ne hq]
            exact hf i hi) (.int (Int32.ofNat 1013))
        refine ⟨f'', ?_⟩
        have e0 : f r.length = s r.length := hf _ (by simp)
        rw [ggL_holds_3]
        simp -implicitDefEqProofs (disch := (first | omega | assumption | exact am_isS_3 | exact am_isS_25 | exact am_isX_356 | exact am_isX_359)) only [ggL_holds_0, ggL_holds_1, ggL_holds_2, ggL_holds_4, ggL_holds_5, ggL_holds_6, ggL_holds_7, ggL_holds_8, ggL_holds_9, ggL_holds_10, ggL_holds_11, ggL_holds_12, ggL_holds_13, ggL_holds_14, ggL_holds_15, ggL_holds_16, ggL_holds_17, ggL_holds_18, ggL_holds_19, ggL_holds_20, ggL_holds_21, ggL_holds_22, ggL_holds_23, ccL_holds_17_1, cw_ne, cw_eq, cw_up, ex, List.length_cons, Nat.add_sub_cancel, e0, am_kI_x, am_kV_x, am_kI_i, am_nI_i, am_kV_i, am_nV_i, ↓reduceIte, eq_self, if_true, if_false, c_in, c_tn, pn_add, pn_mul, pn_subc, pn_addm, c_le_t, c_le_f, c_lt_t, c_lt_f, c_eq_f, c_eqm, bi_z, bi_1, bi_b, bi_T, bi_F, ite_not, up_eq, up_ne, or_self, or_true, true_or, or_false, false_or, and_true, true_and, and_self, not_true_eq_false, not_false_eq_true, Bool.false_eq_true]
        exact e
      all_goals
        have hr : r.length < 23 := by simp only [List.length_cons] at hl24; omega
        have ee : ∀ a b, (ev1 (fct W c) (K j) (n j) (s, (a :: b :: r).length)).1 = pu s r.length (jn (K j) (s r.length) (s (r.length + 1))) := fun a b => by
          unfold ev1
          rw [if_neg (by omega), if_neg (by omega)]
          rfl
        have e0 : f r.length = s r.length := hf _ (by simp; omega)
        have e2 : f (r.length + 1) = s (r.length + 1) := hf _ (by simp)
        obtain ⟨f'', e⟩ := key (pu f r.length (jn (K j) (s r.length) (s (r.length + 1)))) (fun i hi => by
          rw [ee]
          by_cases hq : i = r.length
          · rw [pu_eq hq, pu_eq hq]
          · rw [pu_ne hq, pu_ne hq]
            exact hf i (by simp at hi ⊢; omega)) (.int (h0.2 339 j))
        refine ⟨f'', ?_⟩
        rw [ggL_holds_3]
      · have ex : h0.2 339 j = (Int32.ofNat 1243) := by
          rcases eK with q | q | q | q | q | q | q | q
          · exfalso; omega
          · exfalso; omega
          · exact q.2
          all_goals exfalso; omega
        rw [hk, ex] at e
        have ej : jn 12 (s r.length) (s (r.length + 1)) = s r.length + s (r.length + 1) := rfl
        rw [ej] at e
        simp -implicitDefEqProofs (disch := (first | omega | assumption | exact am_isS_3 | exact am_isS_25 | exact am_isX_356 | exact am_isX_359)) only [ggL_holds_0, ggL_holds_1, ggL_holds_2, ggL_holds_4, ggL_holds_5, ggL_holds_6, ggL_holds_7, ggL_holds_8, ggL_holds_9, ggL_holds_10, ggL_holds_11, ggL_holds_12, ggL_holds_13, ggL_holds_14, ggL_holds_15, ggL_holds_16, ggL_holds_17, ggL_holds_18, ggL_holds_19, ggL_holds_20, ggL_holds_21, ggL_holds_22, ggL_holds_23, ccL_holds_17_1, cw_ne, cw_eq, cw_up, ex, List.length_cons, Nat.add_sub_cancel, e0, e2, xL_joined_12, am_kI_x, am_kV_x, am_kI_i, am_nI_i, am_kV_i, am_nV_i, ↓reduceIte, eq_self, if_true, if_false, c_in, c_tn, pn_add, pn_mul, pn_subc, pn_addm, c_le_t, c_le_f, c_lt_t, c_lt_f, c_eq_f, c_eqm, bi_z, bi_1, bi_b, bi_T, bi_F, ite_not, up_eq, up_ne, or_self, or_true, true_or, or_false, false_or, and_true, true_and, and_self, not_true_eq_false, not_false_eq_true, Bool.false_eq_true]
        exact e
      · rcases hk with hk | hk
        · have ex : h0.2 339 j = (Int32.ofNat 1260) := by
            rcases eK with q | q | q | q | q | q | q | q
            · exfalso; omega
            · exfalso; omega
            · exfalso; omega
            · exact q.2
            all_goals exfalso; omega
          rw [hk, ex] at e
          have ej : jn 13 (s r.length) (s (r.length + 1)) = bi (s r.length < s (r.length + 1)) := rfl
          rw [ej] at e
          simp -implicitDefEqProofs (disch := (first | omega | assumption | exact am_isS_3 | exact am_isS_25 | exact am_isX_356 | exact am_isX_359)) only [ggL_holds_0, ggL_holds_1, ggL_holds_2, ggL_holds_4, ggL_holds_5, ggL_holds_6, ggL_holds_7, ggL_holds_8, ggL_holds_9, ggL_holds_10, ggL_holds_11, ggL_holds_12, ggL_holds_13, ggL_holds_14, ggL_holds_15, ggL_holds_16, ggL_holds_17, ggL_holds_18, ggL_holds_19, ggL_holds_20, ggL_holds_21, ggL_holds_22, ggL_holds_23, ccL_holds_17_1, cw_ne, cw_eq, cw_up, ex, List.length_cons, Nat.add_sub_cancel, e0, e2, xL_joined_13, am_kI_x, am_kV_x, am_kI_i, am_nI_i, am_kV_i, am_nV_i, ↓reduceIte, eq_self, if_true, if_false, c_in, c_tn, pn_add, pn_mul, pn_subc, pn_addm, c_le_t, c_le_f, c_lt_t, c_lt_f, c_eq_f, c_eqm, bi_z, bi_1, bi_b, bi_T, bi_F, ite_not, up_eq, up_ne, or_self, or_true, true_or, or_false, false_or, and_true, true_and, and_self, not_true_eq_false, not_false_eq_true, Bool.false_eq_true]
          exact e
        · have ex : h0.2 339 j = (Int32.ofNat 1262) := by
            rcases eK with q | q | q | q | q | q | q | q
            · exfalso; omega
            · exfalso; omega
            · exfalso; omega
            · exfalso; omega
            · exact q.2
            all_goals exfalso; omega
          rw [hk, ex] at e
          have ej : jn 14 (s r.length) (s (r.length + 1)) = bi (s (r.length + 1) < s r.length) := rfl
          rw [ej] at e
          simp -implicitDefEqProofs (disch := (first | omega | assumption | exact am_isS_3 | exact am_isS_25 | exact am_isX_356 | exact am_isX_359)) only [ggL_holds_0, ggL_holds_1, ggL_holds_2, ggL_holds_4, ggL_holds_5, ggL_holds_6, ggL_holds_7, ggL_holds_8, ggL_holds_9, ggL_holds_10, ggL_holds_11, ggL_holds_12, ggL_holds_13, ggL_holds_14, ggL_holds_15, ggL_holds_16, ggL_holds_17, ggL_holds_18, ggL_holds_19, ggL_holds_20, ggL_holds_21, ggL_holds_22, ggL_holds_23, ccL_holds_17_1, cw_ne, cw_eq, cw_up, ex, List.length_cons, Nat.add_sub_cancel, e0, e2, xL_joined_14, am_kI_x, am_kV_x, am_kI_i, am_nI_i, am_kV_i, am_nV_i, ↓reduceIte, eq_self, if_true, if_false, c_in, c_tn, pn_add, pn_mul, pn_subc, pn_addm, c_le_t, c_le_f, c_lt_t, c_lt_f, c_eq_f, c_eqm, bi_z, bi_1, bi_b, bi_T, bi_F, ite_not, up_eq, up_ne, or_self, or_true, true_or, or_false, false_or, and_true, true_and, and_self, not_true_eq_false, not_false_eq_true, Bool.false_eq_true]
          exact e
      · have t1 : s (r.length + 1) = (Int32.ofNat 0) ∨ s (r.length + 1) = (Int32.ofNat 1) := hI.1 rfl
        have t0 : s r.length = (Int32.ofNat 0) ∨ s r.length = (Int32.ofNat 1) := hI.2.1 rfl
        rcases hk with hk | hk
        · have ex : h0.2 339 j = (Int32.ofNat 1011) := by
            rcases eK with q | q | q | q | q | q | q | q
            · exfalso; omega
            · exfalso; omega
            · exfalso; omega
            · exfalso; omega
            · exfalso; omega
            · exfalso; omega
            · exact q.2
            all_goals exfalso; omega
          rw [hk, ex] at e
          have ej : jn 16 (s r.length) (s (r.length + 1)) = s r.length &&& s (r.length + 1) := (and_bi t0 t1).symm
          rw [ej] at e
          simp -implicitDefEqProofs (disch := (first | omega | assumption | exact am_isS_3 | exact am_isS_25 | exact am_isX_356 | exact am_isX_359)) only [ggL_holds_0, ggL_holds_1, ggL_holds_2, ggL_holds_4, ggL_holds_5, ggL_holds_6, ggL_holds_7, ggL_holds_8, ggL_holds_9, ggL_holds_10, ggL_holds_11, ggL_holds_12, ggL_holds_13, ggL_holds_14, ggL_holds_15, ggL_holds_16, ggL_holds_17, ggL_holds_18, ggL_holds_19, ggL_holds_20, ggL_holds_21, ggL_holds_22, ggL_holds_23, ccL_holds_17_1, cw_ne, cw_eq, cw_up, ex, List.length_cons, Nat.add_sub_cancel, e0, e2, xL_joined_16, am_kI_x, am_kV_x, am_kI_i, am_nI_i, am_kV_i, am_nV_i, ↓reduceIte, eq_self, if_true, if_false, c_in, c_tn, pn_add, pn_mul, pn_subc, pn_addm, c_le_t, c_le_f, c_lt_t, c_lt_f, c_eq_f, c_eqm, bi_z, bi_1, bi_b, bi_T, bi_F, ite_not, up_eq, up_ne, or_self, or_true, true_or, or_false, false_or, and_true, true_and, and_self, not_true_eq_false, not_false_eq_true, Bool.false_eq_true]
          exact e
        · have ex : h0.2 339 j = (Int32.ofNat 1012) := by
            rcases eK with q | q | q | q | q | q | q | q
            · exfalso; omega
            · exfalso; omega
            · exfalso; omega
            · exfalso; omega
            · exfalso; omega
            · exfalso; omega
            · exfalso; omega
            · exact q.2
          rw [hk, ex] at e
          have ej : jn 17 (s r.length) (s (r.length + 1)) = s r.length ||| s (r.length + 1) := (or_bi t0 t1).symm
          rw [ej] at e
          simp -implicitDefEqProofs (disch := (first | omega | assumption | exact am_isS_3 | exact am_isS_25 | exact am_isX_356 | exact am_isX_359)) only [ggL_holds_0, ggL_holds_1, ggL_holds_2, ggL_holds_4, ggL_holds_5, ggL_holds_6, ggL_holds_7, ggL_holds_8, ggL_holds_9, ggL_holds_10, ggL_holds_11, ggL_holds_12, ggL_holds_13, ggL_holds_14, ggL_holds_15, ggL_holds_16, ggL_holds_17, ggL_holds_18, ggL_holds_19, ggL_holds_20, ggL_holds_21, ggL_holds_22, ggL_holds_23, ccL_holds_17_1, cw_ne, cw_eq, cw_up, ex, List.length_cons, Nat.add_sub_cancel, e0, e2, xL_joined_17, am_kI_x, am_kV_x, am_kI_i, am_nI_i, am_kV_i, am_nV_i, ↓reduceIte, eq_self, if_true, if_false, c_in, c_tn, pn_add, pn_mul, pn_subc, pn_addm, c_le_t, c_le_f, c_lt_t, c_lt_f, c_eq_f, c_eqm, bi_z, bi_1, bi_b, bi_T, bi_F, ite_not, up_eq, up_ne, or_self, or_true, true_or, or_false, false_or, and_true, true_and, and_self, not_true_eq_false, not_false_eq_true, Bool.false_eq_true]
          exact e
