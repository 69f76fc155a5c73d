/-! calls that only look: first ones -/
theorem lpp {σ τ : Type} {Φ Ψ : am_F} {q b q' b' N : Nat} {h h' : am_H} (L : Nat → σ → List Value) (M : Nat → τ → List Value) (P : Nat → σ → τ → Prop) (step : ∀ i s t, i < N → P i s t → ∃ s' t', P (i + 1) s' t' ∧ am_go Φ q b (L i s) [] h = am_go Φ q b (L (i + 1) s') [] h ∧ am_go Ψ q' b' (M i t) [] h' = am_go Ψ q' b' (M (i + 1) t') [] h') (exit : ∀ s t, P N s t → ∃ v, am_go Φ q b (L N s) [] h = some (.inl (some (v)), h) ∧ am_go Ψ q' b' (M N t) [] h' = some (.inl (some (v)), h')) : ∀ k c s t, c + k = N → P c s t → ∃ v, am_go Φ q b (L c s) [] h = some (.inl (some (v)), h) ∧ am_go Ψ q' b' (M c t) [] h' = some (.inl (some (v)), h') := by
  intro k
  induction k with
  | zero => intro c s t hc p; rw [show c = N by omega] at p ⊢; exact exit s t p
  | succ k ih =>
    intro c s t hc p
    obtain ⟨s', t', p', e1, e2⟩ := step c s t (by omega) p
    rw [e1, e2]
    exact ih (c + 1) s' t' (by omega) p'
theorem T_fault : Ans qF_fault [.ref 0] qR_fault [.ref 373] := by
  intro d hC hR J
  refine ⟨hR.2 373 14, hC, am_up hR 373 0 (Int32.ofNat 0), J.thr (Int32.ofNat 0), rfl, rfl, up_eq rfl rfl, ?_, ?_⟩
  · have e := J.2.2.1
    simp -implicitDefEqProofs (disch := (first | omega | assumption | exact am_isS_3 | exact am_isS_25 | exact am_isX_356 | exact am_isX_359)) only [uF_fault, ggF_fault_0, e, am_kI_x, am_kV_x, am_kI_i, am_nI_i, am_kV_i, am_nV_i, ↓reduceIte, eq_self, if_true, if_false, c_in, c_tn, pn_add, pn_mul, pn_subc, pn_addm, c_le_t, c_le_f, c_lt_t, c_lt_f, c_eq_f, c_eqm, bi_z, bi_1, bi_b, bi_T, bi_F, ite_not, up_eq, up_ne, or_self, or_true, true_or, or_false, false_or, and_true, true_and, and_self, not_true_eq_false, not_false_eq_true, Bool.false_eq_true]
  · simp -implicitDefEqProofs (disch := (first | omega | assumption | exact am_isS_3 | exact am_isS_25 | exact am_isX_356 | exact am_isX_359)) only [uR_fault, ggR_fault_0, am_kI_x, am_kV_x, am_kI_i, am_nI_i, am_kV_i, am_nV_i, ↓reduceIte, eq_self, if_true, if_false, c_in, c_tn, pn_add, pn_mul, pn_subc, pn_addm, c_le_t, c_le_f, c_lt_t, c_lt_f, c_eq_f, c_eqm, bi_z, bi_1, bi_b, bi_T, bi_F, ite_not, up_eq, up_ne, or_self, or_true, true_or, or_false, false_or, and_true, true_and, and_self, not_true_eq_false, not_false_eq_true, Bool.false_eq_true]
theorem T_shut : Ans qF_shut [.ref 0] qR_shut [.ref 373] := by
  intro d hC hR J
  have J0 := J.thr (Int32.ofNat 0)
  obtain ⟨⟨N, G, R, okt, okc, okk, RL⟩, -⟩ := J
  have hN := R.1
  have r4 := R.2.2.2.1
  have e : (am_up hR 373 0 (Int32.ofNat 0)).2 374 0 = (Int32.ofNat N) := by rw [up_o (by omega)]; exact R.2.2.1
  have eb := bs_rel R (k := 2) (by omega) (Int32.ofNat 31)
  refine ⟨bset (fun c => decide (hR.2 374 (43 + 9 * c + 2) = (Int32.ofNat 31))) N, hC, am_up hR 373 0 (Int32.ofNat 0), J0, rfl, rfl, up_eq rfl rfl, ?_, ?_⟩
  · simp -implicitDefEqProofs (disch := (first | omega | assumption | exact am_isS_3 | exact am_isS_25 | exact am_isX_356 | exact am_isX_359)) only [uF_shut, ggF_shut_0, ccF_shut_0_1, sS_bitsOf am_isS_3 hN r4, eb, am_kI_x, am_kV_x, am_kI_i, am_nI_i, am_kV_i, am_nV_i, ↓reduceIte, eq_self, if_true, if_false, c_in, c_tn, pn_add, pn_mul, pn_subc, pn_addm, c_le_t, c_le_f, c_lt_t, c_lt_f, c_eq_f, c_eqm, bi_z, bi_1, bi_b, bi_T, bi_F, ite_not, up_eq, up_ne, or_self, or_true, true_or, or_false, false_or, and_true, true_and, and_self, not_true_eq_false, not_false_eq_true, Bool.false_eq_true]
  · have q := rR_thatAre hN e
    rw [up_o (by omega)] at q
    simp -implicitDefEqProofs (disch := (first | omega | assumption | exact am_isS_3 | exact am_isS_25 | exact am_isX_356 | exact am_isX_359)) only [uR_shut, ggR_shut_0, ccR_shut_0_1, q, am_kI_x, am_kV_x, am_kI_i, am_nI_i, am_kV_i, am_nV_i, ↓reduceIte, eq_self, if_true, if_false, c_in, c_tn, pn_add, pn_mul, pn_subc, pn_addm, c_le_t, c_le_f, c_lt_t, c_lt_f, c_eq_f, c_eqm, bi_z, bi_1, bi_b, bi_T, bi_F, ite_not, up_eq, up_ne, or_self, or_true, true_or, or_false, false_or, and_true, true_and, and_self, not_true_eq_false, not_false_eq_true, Bool.false_eq_true]
theorem T_open : Ans qF_open [.ref 0] qR_open [.ref 373] := by
  intro d hC hR J
  have J0 := J.thr (Int32.ofNat 0)
  obtain ⟨⟨N, G, R, okt, okc, okk, RL⟩, -⟩ := J
  have hN := R.1
  have r4 := R.2.2.2.1
  have e : (am_up hR 373 0 (Int32.ofNat 0)).2 374 0 = (Int32.ofNat N) := by rw [up_o (by omega)]; exact R.2.2.1
  have eb := bs_rel R (k := 7) (by omega) (Int32.ofNat 1)
  refine ⟨bset (fun c => decide (hR.2 374 (43 + 9 * c + 7) = (Int32.ofNat 1))) N, hC, am_up hR 373 0 (Int32.ofNat 0), J0, rfl, rfl, up_eq rfl rfl, ?_, ?_⟩
  · simp -implicitDefEqProofs (disch := (first | omega | assumption | exact am_isS_3 | exact am_isS_25 | exact am_isX_356 | exact am_isX_359)) only [uF_open, ggF_open_0, ccF_open_0_1, sS_bitsOf am_isS_3 hN r4, eb, am_kI_x, am_kV_x, am_kI_i, am_nI_i, am_kV_i, am_nV_i, ↓reduceIte, eq_self, if_true, if_false, c_in, c_tn, pn_add, pn_mul, pn_subc, pn_addm, c_le_t, c_le_f, c_lt_t, c_lt_f, c_eq_f, c_eqm, bi_z, bi_1, bi_b, bi_T, bi_F, ite_not, up_eq, up_ne, or_self, or_true, true_or, or_false, false_or, and_true, true_and, and_self, not_true_eq_false, not_false_eq_true, Bool.false_eq_true]
  · have q := rR_openedOnes hN e
    rw [up_o (by omega)] at q
    simp -implicitDefEqProofs (disch := (first | omega | assumption | exact am_isS_3 | exact am_isS_25 | exact am_isX_356 | exact am_isX_359)) only [uR_open, ggR_open_0, ccR_open_0_1, q, am_kI_x, am_kV_x, am_kI_i, am_nI_i, am_kV_i, am_nV_i, ↓reduceIte, eq_self, if_true, if_false, c_in, c_tn, pn_add, pn_mul, pn_subc, pn_addm, c_le_t, c_le_f, c_lt_t, c_lt_f, c_eq_f, c_eqm, bi_z, bi_1, bi_b, bi_T, bi_F, ite_not, up_eq, up_ne, or_self, or_true, true_or, or_false, false_or, and_true, true_and, and_self, not_true_eq_false, not_false_eq_true, Bool.false_eq_true]
theorem rR_allChildren (d : Nat) (h : am_H) : am_cl (d + 2) qR_allChildren [.ref 373] h = some (.inl (some (((Int32.ofNat 1) <<< (h.2 374 0 &&& (Int32.ofNat 31))) - (Int32.ofNat 1))), h) := by simp -implicitDefEqProofs (disch := (first | omega | assumption | exact am_isS_3 | exact am_isS_25 | exact am_isX_356 | exact am_isX_359)) only [uR_allChildren, ggR_allChildren_0, ccR_allChildren_0_1, rR_children, am_kI_x, am_kV_x, am_kI_i, am_nI_i, am_kV_i, am_nV_i, ↓reduceIte, eq_self, if_true, if_false, c_in, c_tn, pn_add, pn_mul, pn_subc, pn_addm, c_le_t, c_le_f, c_lt_t, c_lt_f, c_eq_f, c_eqm, bi_z, bi_1, bi_b, bi_T, bi_F, ite_not, up_eq, up_ne, or_self, or_true, true_or, or_false, false_or, and_true, true_and, and_self, not_true_eq_false, not_false_eq_true, Bool.false_eq_true]
theorem T_knotted : Ans qF_knotted [.ref 0] qR_knotted [.ref 373] := by
  intro d hC hR J
  have J0 := J.thr (Int32.ofNat 0)
  obtain ⟨⟨N, G, R, okt, okc, okk, RL⟩, -⟩ := J
  have hN := R.1
  have r3 := R.2.2.1
  have r4 := R.2.2.2.1
  have e : (am_up hR 373 0 (Int32.ofNat 0)).2 374 0 = (Int32.ofNat N) := by rw [up_o (by omega)]; exact R.2.2.1
  have eb := bs_rel R (k := 8) (by omega) (-1)
  refine ⟨(((Int32.ofNat 1) <<< ((Int32.ofNat N) &&& (Int32.ofNat 31))) - (Int32.ofNat 1)) &&& (bset (fun c => decide (hR.2 374 (43 + 9 * c + 8) = -1)) N ^^^ -1), hC, am_up hR 373 0 (Int32.ofNat 0), J0, rfl, rfl, up_eq rfl rfl, ?_, ?_⟩
  · simp -implicitDefEqProofs (disch := (first | omega | assumption | exact am_isS_3 | exact am_isS_25 | exact am_isX_356 | exact am_isX_359)) only [uF_knotted, ggF_knotted_0, ccF_knotted_0_2, ccF_knotted_0_1, sS_bitsOf am_isS_3 hN r4, sS_everyone am_isS_3, r4, eb, am_kI_x, am_kV_x, am_kI_i, am_nI_i, am_kV_i, am_nV_i, ↓reduceIte, eq_self, if_true, if_false, c_in, c_tn, pn_add, pn_mul, pn_subc, pn_addm, c_le_t, c_le_f, c_lt_t, c_lt_f, c_eq_f, c_eqm, bi_z, bi_1, bi_b, bi_T, bi_F, ite_not, up_eq, up_ne, or_self, or_true, true_or, or_false, false_or, and_true, true_and, and_self, not_true_eq_false, not_false_eq_true, Bool.false_eq_true]
  · have q := rR_thatAre hN e
    rw [up_o (by omega)] at q
    simp -implicitDefEqProofs (disch := (first | omega | assumption | exact am_isS_3 | exact am_isS_25 | exact am_isX_356 | exact am_isX_359)) only [uR_knotted, ggR_knotted_0, ccR_knotted_0_2, ccR_knotted_0_1, q, rR_allChildren, e, up_o, r3, am_kI_x, am_kV_x, am_kI_i, am_nI_i, am_kV_i, am_nV_i, ↓reduceIte, eq_self, if_true, if_false, c_in, c_tn, pn_add, pn_mul, pn_subc, pn_addm, c_le_t, c_le_f, c_lt_t, c_lt_f, c_eq_f, c_eqm, bi_z, bi_1, bi_b, bi_T, bi_F, ite_not, up_eq, up_ne, or_self, or_true, true_or, or_false, false_or, and_true, true_and, and_self, not_true_eq_false, not_false_eq_true, Bool.false_eq_true]
def anyN (p : Nat → Bool) : Nat → Bool
  | 0 => false
  | n + 1 => anyN p n || p n
theorem anyN_iff {p : Nat → Bool} : ∀ {n : Nat}, anyN p n = true ↔ ∃ i, i < n ∧ p i = true := by
  intro n
  induction n with
  | zero => exact ⟨fun h => (by cases h), fun ⟨i, h, _⟩ => by omega⟩
  | succ n ih =>
    show (anyN p n || p n) = true ↔ _
    rw [Bool.or_eq_true, ih]
    constructor
    · rintro (⟨i, h1, h2⟩ | h)
      · exact ⟨i, by omega, h2⟩
      · exact ⟨n, by omega, h⟩
    · rintro ⟨i, h1, h2⟩
      by_cases hi : i = n
      · right; rw [← hi]; exact h2
      · left; exact ⟨i, by omega, h2⟩
theorem tb_ors (f : Nat → Int32) {c : Nat} (hc : c < 32) : ∀ n, tb (itr (fun t b => b ||| f t) n 0 (Int32.ofNat 0)) c = anyN (fun t => tb (f t) c) n := by
  intro n
  induction n with
  | zero => exact tb_0 hc
  | succ n ih => rw [itr_succ, tb_or, ih, Nat.zero_add]; rfl
theorem bool_iff {a b : Bool} (h : a = true ↔ b = true) : a = b := by
  cases a <;> cases b <;> simp_all
theorem T_content : Ans qF_content [.ref 0] qR_content [.ref 373] := by
  intro d hC hR J
  have J0 := J.thr (Int32.ofNat 0)
  obtain ⟨⟨N, G, R, okt, okc, okk, RL⟩, -⟩ := J
  have hN := R.1
  have r3 := R.2.2.1
  have r4 := R.2.2.2.1
  refine ⟨bset (fun c => decide (¬ hR.2 374 (43 + 9 * c + 5) = -1 ∧ hR.2 374 (43 + 9 * c + 5) = hR.2 374 (43 + 9 * c + 4))) N, hC, am_up hR 373 0 (Int32.ofNat 0), J0, rfl, rfl, up_eq rfl rfl, ?_, ?_⟩
  · have e : bset (fun c => decide (¬ hR.2 374 (43 + 9 * c + 5) = -1 ∧ hR.2 374 (43 + 9 * c + 5) = hR.2 374 (43 + 9 * c + 4))) N = itr (fun t b => b ||| (bset (fun c => decide (hR.2 374 (43 + 9 * c + 5) = (Int32.ofNat t))) N &&& bset (fun c => decide (hR.2 374 (43 + 9 * c + 4) = (Int32.ofNat t))) N)) 8 0 (Int32.ofNat 0) := by
      apply tb_ext
      intro c hc
      rw [tb_ors _ hc, tb_bset _ (by omega) hc]
      apply bool_iff
      rw [anyN_iff, Bool.and_eq_true, decide_eq_true_iff, decide_eq_true_iff]
      constructor
      · rintro ⟨h1, h2, h3⟩
        obtain ⟨t, ht, et⟩ := ((okc c h1).2.2.2.2.2.1).resolve_left h2
        refine ⟨t, ht, ?_⟩
        rw [tb_and, tb_bset _ (by omega) hc, tb_bset _ (by omega) hc, ← h3, et]
        simp [h1]
      · rintro ⟨t, ht, h⟩
        rw [tb_and, tb_bset _ (by omega) hc, tb_bset _ (by omega) hc] at h
        simp only [Bool.and_eq_true, decide_eq_true_iff] at h
        refine ⟨h.1.1, ?_, h.1.2.trans h.2.2.symm⟩
        rw [h.1.2, c_eqm (by omega)]
        exact fun q => q
    rw [e, uF_content, ggF_content_0]
    refine lp (N := 8) (L := fun t b => [.ref 0, .int b, .int (Int32.ofNat t)]) (H := fun _ => hC) (R := fun b => some (.inl (some (b)), hC)) _ (fun t b ht => ?_) (fun b => ?_) 8 0 (Int32.ofNat 0) (by omega)
    · rw [ggF_content_1]
      have e5 := bs_rel R (k := 5) (by omega) (Int32.ofNat t)
      have e4 := bs_rel R (k := 4) (by omega) (Int32.ofNat t)
      simp -implicitDefEqProofs (disch := (first | omega | assumption | exact am_isS_3 | exact am_isS_25 | exact am_isX_356 | exact am_isX_359)) only [ggF_content_0, ggF_content_2, ggF_content_3, ccF_content_2_2, ccF_content_2_1, sS_bitsOf am_isS_3 hN r4, e4, e5, am_kI_x, am_kV_x, am_kI_i, am_nI_i, am_kV_i, am_nV_i, ↓reduceIte, eq_self, if_true, if_false, c_in, c_tn, pn_add, pn_mul, pn_subc, pn_addm, c_le_t, c_le_f, c_lt_t, c_lt_f, c_eq_f, c_eqm, bi_z, bi_1, bi_b, bi_T, bi_F, ite_not, up_eq, up_ne, or_self, or_true, true_or, or_false, false_or, and_true, true_and, and_self, not_true_eq_false, not_false_eq_true, Bool.false_eq_true]
    · rw [ggF_content_1]
      simp -implicitDefEqProofs (disch := (first | omega | assumption | exact am_isS_3 | exact am_isS_25 | exact am_isX_356 | exact am_isX_359)) only [ggF_content_0, ggF_content_2, ggF_content_3, ccF_content_2_2, ccF_content_2_1, am_kI_x, am_kV_x, am_kI_i, am_nI_i, am_kV_i, am_nV_i, ↓reduceIte, eq_self, if_true, if_false, c_in, c_tn, pn_add, pn_mul, pn_subc, pn_addm, c_le_t, c_le_f, c_lt_t, c_lt_f, c_eq_f, c_eqm, bi_z, bi_1, bi_b, bi_T, bi_F, ite_not, up_eq, up_ne, or_self, or_true, true_or, or_false, false_or, and_true, true_and, and_self, not_true_eq_false, not_false_eq_true, Bool.false_eq_true]
  · rw [uR_content, ggR_content_0]
    refine lp (N := N) (L := fun c b => [.ref 373, .int b, .int (Int32.ofNat c)]) (H := fun _ => am_up hR 373 0 (Int32.ofNat 0)) (R := fun b => some (.inl (some (b)), am_up hR 373 0 (Int32.ofNat 0))) _ (fun c b hc => ?_) (fun b => ?_) N 0 (Int32.ofNat 0) (by omega)
    · rw [ggR_content_1]
      by_cases h1 : hR.2 374 (43 + 9 * c + 5) = -1
      · simp -implicitDefEqProofs (disch := (first | omega | assumption | exact am_isS_3 | exact am_isS_25 | exact am_isX_356 | exact am_isX_359)) only [ggR_content_0, ggR_content_2, ggR_content_3, ggR_content_4, ggR_content_5, ggR_content_6, ggR_content_7, ccR_content_1_1, ccR_content_2_1, ccR_content_3_2, ccR_content_3_1, rR_children, rR_keeps, rR_of, up_o, r3, h1, or_zero32, false_and, decide_false, am_kI_x, am_kV_x, am_kI_i, am_nI_i, am_kV_i, am_nV_i, ↓reduceIte, eq_self, if_true, if_false, c_in, c_tn, pn_add, pn_mul, pn_subc, pn_addm, c_le_t, c_le_f, c_lt_t, c_lt_f, c_eq_f, c_eqm, bi_z, bi_1, bi_b, bi_T, bi_F, ite_not, up_eq, up_ne, or_self, or_true, true_or, or_false, false_or, and_true, true_and, and_self, not_true_eq_false, not_false_eq_true, Bool.false_eq_true]
      · by_cases h2 : hR.2 374 (43 + 9 * c + 5) = hR.2 374 (43 + 9 * c + 4)
        · have h3 : ¬ hR.2 374 (43 + 9 * c + 4) = -1 := by rw [← h2]; exact h1
          simp -implicitDefEqProofs (disch := (first | omega | assumption | exact am_isS_3 | exact am_isS_25 | exact am_isX_356 | exact am_isX_359)) only [ggR_content_0, ggR_content_2, ggR_content_3, ggR_content_4, ggR_content_5, ggR_content_6, ggR_content_7, ccR_content_1_1, ccR_content_2_1, ccR_content_3_2, ccR_content_3_1, rR_children, rR_keeps, rR_of, up_o, r3, h2, h3, decide_true, am_kI_x, am_kV_x, am_kI_i, am_nI_i, am_kV_i, am_nV_i, ↓reduceIte, eq_self, if_true, if_false, c_in, c_tn, pn_add, pn_mul, pn_subc, pn_addm, c_le_t, c_le_f, c_lt_t, c_lt_f, c_eq_f, c_eqm, bi_z, bi_1, bi_b, bi_T, bi_F, ite_not, up_eq, up_ne, or_self, or_true, true_or, or_false, false_or, and_true, true_and, and_self, not_true_eq_false, not_false_eq_true, Bool.false_eq_true]
        · simp -implicitDefEqProofs (disch := (first | omega | assumption | exact am_isS_3 | exact am_isS_25 | exact am_isX_356 | exact am_isX_359)) only [ggR_content_0, ggR_content_2, ggR_content_3, ggR_content_4, ggR_content_5, ggR_content_6, ggR_content_7, ccR_content_1_1, ccR_content_2_1, ccR_content_3_2, ccR_content_3_1, rR_children, rR_keeps, rR_of, up_o, r3, h1, h2, or_zero32, and_false, decide_false, am_kI_x, am_kV_x, am_kI_i, am_nI_i, am_kV_i, am_nV_i, ↓reduceIte, eq_self, if_true, if_false, c_in, c_tn, pn_add, pn_mul, pn_subc, pn_addm, c_le_t, c_le_f, c_lt_t, c_lt_f, c_eq_f, c_eqm, bi_z, bi_1, bi_b, bi_T, bi_F, ite_not, up_eq, up_ne, or_self, or_true, true_or, or_false, false_or, and_true, true_and, and_self, not_true_eq_false, not_false_eq_true, Bool.false_eq_true]
    · rw [ggR_content_1]
      simp -implicitDefEqProofs (disch := (first | omega | assumption | exact am_isS_3 | exact am_isS_25 | exact am_isX_356 | exact am_isX_359)) only [ggR_content_0, ggR_content_2, ggR_content_3, ggR_content_4, ggR_content_5, ggR_content_6, ggR_content_7, ccR_content_1_1, ccR_content_2_1, ccR_content_3_2, ccR_content_3_1, rR_children, up_o, r3, am_kI_x, am_kV_x, am_kI_i, am_nI_i, am_kV_i, am_nV_i, ↓reduceIte, eq_self, if_true, if_false, c_in, c_tn, pn_add, pn_mul, pn_subc, pn_addm, c_le_t, c_le_f, c_lt_t, c_lt_f, c_eq_f, c_eqm, bi_z, bi_1, bi_b, bi_T, bi_F, ite_not, up_eq, up_ne, or_self, or_true, true_or, or_false, false_or, and_true, true_and, and_self, not_true_eq_false, not_false_eq_true, Bool.false_eq_true]
theorem T_seed (x : Int32) : Ans qF_seed [.ref 0, .int x] qR_seed [.ref 373, .int x] := by
  intro d hC hR J
  have J0 := J.thr (Int32.ofNat 0)
  obtain ⟨⟨N, G, R, okt, okc, okk, RL⟩, a, b, c, e, k⟩ := J
  have hN := R.1
  have r9 := R.2.2.2.2.2.2.2.2.1
  have eW : (am_up (am_up hR 373 0 (Int32.ofNat 0)) 374 6 x).2 374 = pu (hR.2 374) 6 x := by rw [up_pu, up_o (by omega)]
  refine ⟨hR.2 374 6, am_up hC 3 7 x, am_up (am_up hR 373 0 (Int32.ofNat 0)) 374 6 x, ⟨⟨N, G, ?_, ?_, ?_, ?_, ?_⟩, ?_, ?_, ?_, ?_, ?_⟩, rfl, rfl, ?_, ?_, ?_⟩
  · rw [eW]; exact R.seed x
  · rw [eW]; exact okt.of (fun j h1 h2 => pu_ne h2)
  · rw [eW]; exact okc.of hN (fun j h1 h2 => pu_ne (by omega))
  · rw [eW]; exact okk.of hN (fun j h1 h2 => pu_ne (by omega))
  · rw [eW]; exact RL.of (fun q h1 h2 => up_o (by omega)) (pu_ne (by omega)) (fun j h1 h2 => pu_ne (by omega))
  · exact a.of (up_ne (by omega)) (up_o (by omega)) (by rw [up_ne (by omega), up_ne (by omega)]) (by rw [up_o (by omega), up_o (by omega)])
  · rw [up_ne (by omega), up_ne (by omega), up_ne (by omega)]; exact b
  · exact c.of (up_ne (by omega)) (fun p h1 h2 => up_o (by omega)) (fun p h1 h2 => up_o (by omega)) (by rw [up_ne (by omega), up_ne (by omega)]) (by rw [up_o (by omega), up_o (by omega)])
  · exact e.of (up_o (by omega)) (fun p h1 h2 => up_o (by omega)) (by rw [up_ne (by omega), up_ne (by omega)]) (by rw [up_o (by omega), up_o (by omega)]) (by rw [up_ne (by omega), up_ne (by omega)])
  · exact k.of (up_ne (by omega)) (up_o (by omega)) (up_o (by omega))
  · rw [up_ne (by omega)]; exact up_eq rfl rfl
  · simp -implicitDefEqProofs (disch := (first | omega | assumption | exact am_isS_3 | exact am_isS_25 | exact am_isX_356 | exact am_isX_359)) only [uF_seed, ggF_seed_0, r9, am_kI_x, am_kV_x, am_kI_i, am_nI_i, am_kV_i, am_nV_i, ↓reduceIte, eq_self, if_true, if_false, c_in, c_tn, pn_add, pn_mul, pn_subc, pn_addm, c_le_t, c_le_f, c_lt_t, c_lt_f, c_eq_f, c_eqm, bi_z, bi_1, bi_b, bi_T, bi_F, ite_not, up_eq, up_ne, or_self, or_true, true_or, or_false, false_or, and_true, true_and, and_self, not_true_eq_false, not_false_eq_true, Bool.false_eq_true]
  · simp -implicitDefEqProofs (disch := (first | omega | assumption | exact am_isS_3 | exact am_isS_25 | exact am_isX_356 | exact am_isX_359)) only [uR_seed, ggR_seed_0, am_kI_x, am_kV_x, am_kI_i, am_nI_i, am_kV_i, am_nV_i, ↓reduceIte, eq_self, if_true, if_false, c_in, c_tn, pn_add, pn_mul, pn_subc, pn_addm, c_le_t, c_le_f, c_lt_t, c_lt_f, c_eq_f, c_eqm, bi_z, bi_1, bi_b, bi_T, bi_F, ite_not, up_eq, up_ne, or_self, or_true, true_or, or_false, false_or, and_true, true_and, and_self, not_true_eq_false, not_false_eq_true, Bool.false_eq_true]
