/-! months ahead: the state is lent and brought back -/
theorem up_self {h : am_H} {o i : Nat} {v : Int32} (e : h.2 o i = v) : am_up h o i v = h := by
  unfold am_up
  show (h.1, _) = (h.1, h.2)
  congr 1
  funext p q
  by_cases hq : p = o ∧ q = i
  · rw [if_pos hq, hq.1, hq.2, e]
  · rw [if_neg hq]
def lent (hR : am_H) : am_H := cw hR 377 (cpy (hR.2 374) (hR.2 377) 0 415)
def given (hR : am_H) : am_H := cw hR 374 (cpy (hR.2 377) (hR.2 374) 0 415)
theorem lent_374 {hR : am_H} : (lent hR).2 374 = hR.2 374 := cw_ne (by omega)
theorem copy25 {hC : am_H} (d : Nat) : ∃ hC1, am_cl (d + 2) qS_copyFrom [.ref 25, .ref 3] hC = some (.inl none, hC1) ∧ hC1.1 = hC.1 ∧ (∀ p, p < 25 ∨ 47 ≤ p → hC1.2 p = hC.2 p) ∧ ∀ hR N G, Lk hC hR 3 N G → Lk hC1 hR 25 N G := by
  obtain ⟨h1, a1, a2, a3, a4⟩ := copy_rel (o := 25) (o' := 3) am_isS_25 am_isS_3 (by omega) d hC
  refine ⟨h1, a1, a2, fun p hp => a3 p (by omega), fun hR N G L => ?_⟩
  obtain ⟨R, okt, okc, okk, RL⟩ := L
  exact ⟨a4 _ _ _ R, okt, okc, okk, RL.of (fun p q1 q2 => a3 p (by omega)) rfl (fun _ _ _ => rfl)⟩
theorem Lk.row {hC hR hR' : am_H} {o N G : Nat} (L : Lk hC hR o N G) (e : hR'.2 374 = hR.2 374) : Lk hC hR' o N G := by
  unfold Lk at L ⊢
  rw [e]
  exact L
theorem ahead_end {hC hR hC2 hR2 : am_H} (J : J2 hC hR) (f : ∀ p, (p < 25 ∨ 47 ≤ p) → p ≠ 340 → p ≠ 341 → hC2.2 p = hC.2 p) (g : ∀ p, p ≠ 374 → p ≠ 381 → hR2.2 p = (lent hR).2 p) (RL2 : RelL hC2 335 (hR2.2 374)) : J2 hC2 (given hR2) := by
  obtain ⟨⟨N, G, R, okt, okc, okk, RL⟩, a, b, c, e, k⟩ := J
  have hN := R.1
  have w2 : hR2.2 374 2 = hR.2 374 2 := RelL_2 RL RL2 (by rw [f 335 (by omega) (by omega) (by omega)])
  have e377 : hR2.2 377 = cpy (hR.2 374) (hR.2 377) 0 415 := by rw [g 377 (by omega) (by omega)]; exact cw_eq
  have eW : ∀ j, j < 415 → (given hR2).2 374 j = hR.2 374 j := fun j hj => by
    unfold given
    rw [cw_eq, cpy_in (by omega), e377, cpy_in (by omega), Nat.sub_zero, Nat.sub_zero]
  have eU : ∀ j, 415 ≤ j → (given hR2).2 374 j = hR2.2 374 j := fun j hj => by
    unfold given
    rw [cw_eq, cpy_out (by omega)]
  have eo : ∀ p, p ≠ 374 → p ≠ 381 → p ≠ 377 → (given hR2).2 p = hR.2 p := fun p q1 q2 q3 => by
    unfold given
    rw [cw_ne q1, g p q1 q2]
    exact cw_ne q3
  refine ⟨⟨N, G, (R.frame (fun p q1 q2 => f p (by omega) (by omega) (by omega))).row eW, okt.of (fun j q1 q2 => eW j (by omega)), okc.of hN (fun j q1 q2 => eW j (by omega)), okk.of hN (fun j q1 q2 => eW j (by omega)), RL2.of (fun _ _ _ => rfl) ((eW 2 (by omega)).trans w2.symm) (fun j q1 q2 => eU j q1)⟩, a.of (by rw [f 1 (by omega) (by omega) (by omega)]) (f 2 (by omega) (by omega) (by omega)) (by rw [eo 373 (by omega) (by omega) (by omega)]) (eo 379 (by omega) (by omega) (by omega)), ?_, c.of (by rw [f 0 (by omega) (by omega) (by omega)]) (fun p q1 q2 => f p (by omega) (by omega) (by omega)) (fun p q1 q2 => f p (by omega) (by omega) (by omega)) (by rw [eo 373 (by omega) (by omega) (by omega)]) (eo 375 (by omega) (by omega) (by omega)), e.of (f 69 (by omega) (by omega) (by omega)) (fun p q1 q2 => f p (by omega) (by omega) (by omega)) (by rw [eo 373 (by omega) (by omega) (by omega)]) (eo 378 (by omega) (by omega) (by omega)) (eW 2 (by omega)), k.of (by rw [f 362 (by omega) (by omega) (by omega)]) (f 363 (by omega) (by omega) (by omega)) (f 343 (by omega) (by omega) (by omega))⟩
  rw [f 0 (by omega) (by omega) (by omega), eo 373 (by omega) (by omega) (by omega)]
  exact b
/-- n months ahead, calm -/
theorem ahead_both {hC hR : am_H} (J : J2 hC hR) {n : Nat} (hn : n ≤ 100) {D : Nat} (hD : 30 ≤ D) : ∃ N G hC2 hR2, Lk hC2 hR2 25 N G ∧ hC2.1 = hC.1 ∧ hR2.1 = hR.1 ∧ hR2.2 373 = hR.2 373 ∧ hR2.2 374 0 = hR.2 374 0 ∧ J2 hC2 (given hR2) ∧ am_cl D qF_goAhead [.ref 0, .int (Int32.ofNat n)] hC = some (.inl none, hC2) ∧ ∃ v, am_cl D qR_goesOn [.ref 373, .int (Int32.ofNat n), .int (Int32.ofNat 1)] (lent hR) = some (.inl (some (v)), hR2) := by
  obtain ⟨⟨N, G, L⟩, -⟩ := id J
  obtain ⟨hC1, a1, a2, a3, a4⟩ := copy25 (hC := hC) (D - 3)
  have L1 := (a4 hR N G L).row (hR' := lent hR) lent_374
  obtain ⟨g, hC2, hR2, g1, L2, f1, f2, e1, e2⟩ := ahead_l (n := n) (by omega) (D := D - 1) (by omega) (Int32.ofNat 0) n 0 0 G hC1 (lent hR) (by omega) (by omega) L1
  have q373 : hR2.2 373 = hR.2 373 := (f2.2 373 (by omega) (by omega)).trans (cw_ne (by omega))
  have eD : D = D - 1 + 1 := by omega
  have a1 := am_cl_le (d' := D - 1) (by omega) a1
  refine ⟨N, G + g, hC2, hR2, L2, f1.1.trans a2, f2.1.trans rfl, q373, ?_, ?_, ?_, ⟨(Int32.ofNat (0 + g)), ?_⟩⟩
  · rw [L2.1.2.2.1, L.1.2.2.1]
  · exact ahead_end J (fun p q1 q2 q3 => by rw [f1.2 p (by omega) q2 q3, a3 p q1]) f2.2 L2.2.2.2.2
  · rw [eD]
    simp -implicitDefEqProofs (disch := (first | omega | assumption | exact am_isS_3 | exact am_isS_25 | exact am_isX_356 | exact am_isX_359)) only [uF_goAhead, ggF_goAhead_0, ggF_goAhead_2, ggF_goAhead_3, ccF_goAhead_0_1, ccF_goAhead_2_1, a1, am_kI_x, am_kV_x, am_kI_i, am_nI_i, am_kV_i, am_nV_i, ↓reduceIte, eq_self, if_true, if_false, c_in, c_tn, pn_add, pn_mul, pn_subc, pn_addm, c_le_t, c_le_f, c_lt_t, c_lt_f, c_eq_f, c_eqm, bi_z, bi_1, bi_b, bi_T, bi_F, ite_not, up_eq, up_ne, or_self, or_true, true_or, or_false, false_or, and_true, true_and, and_self, not_true_eq_false, not_false_eq_true, Bool.false_eq_true]
    exact e1
  · rw [eD, uR_goesOn, ggR_goesOn_0]
    exact e2
theorem cnt_01 {W : Nat → Int32} : ∀ {N : Nat}, (∀ c, c < N → rg (W (43 + 9 * c + 7)) 2) → cnt (fun c => decide (W (43 + 9 * c + 7) = (Int32.ofNat 0))) N + cnt (fun c => decide (W (43 + 9 * c + 7) = (Int32.ofNat 1))) N = N := by
  intro N
  induction N with
  | zero => intro _; rfl
  | succ n ih =>
    intro h
    have := ih (fun c hc => h c (by omega))
    show cnt _ n + (if decide (W (43 + 9 * n + 7) = (Int32.ofNat 0)) = true then 1 else 0) + (cnt _ n + (if decide (W (43 + 9 * n + 7) = (Int32.ofNat 1)) = true then 1 else 0)) = n + 1
    obtain ⟨w, hw, ew⟩ := h n (by omega)
    rw [ew]
    rcases (show w = 0 ∨ w = 1 by omega) with rfl | rfl
    · rw [if_pos (by decide), if_neg (by decide)]; omega
    · rw [if_neg (by decide), if_pos (by decide)]; omega
theorem rR_noAhead (d : Nat) (x : Int32) (h : am_H) : am_cl (d + 2) qR_noAhead [.int x] h = some (.inl (some (bi (¬ ((Int32.ofNat 0) ≤ x ∧ x ≤ (Int32.ofNat 100))))), h) := by simp -implicitDefEqProofs (disch := (first | omega | assumption | exact am_isS_3 | exact am_isS_25 | exact am_isX_356 | exact am_isX_359)) only [uR_noAhead, ggR_noAhead_0, ggR_noAhead_1, ggR_noAhead_2, ggR_noAhead_3, ccR_noAhead_0_1, rR_in, fold_bi, fold_bn, am_kI_x, am_kV_x, am_kI_i, am_nI_i, am_kV_i, am_nV_i, ↓reduceIte, eq_self, if_true, if_false, c_in, c_tn, pn_add, pn_mul, pn_subc, pn_addm, c_le_t, c_le_f, c_lt_t, c_lt_f, c_eq_f, c_eqm, bi_z, bi_1, bi_b, bi_T, bi_F, ite_not, up_eq, up_ne, or_self, or_true, true_or, or_false, false_or, and_true, true_and, and_self, not_true_eq_false, not_false_eq_true, Bool.false_eq_true]
theorem hm25 {h : am_H} {W : Nat → Int32} {N G : Nat} (R : RelS h 25 W N G) {k : Nat} (hk : k < 9) (v : Int32) (d : Nat) : am_cl (d + 2) qS_howMany [.ref 25, .int (Int32.ofNat k), .int v] h = some (.inl (some ((Int32.ofNat (cnt (fun c => decide (W (43 + 9 * c + k) = v)) N)))), h) := by
  have hN := R.1
  rw [sS_howMany am_isS_25 hN R.2.2.2.1 d hk v, bs_rel R hk v, (bset_N _ (by omega)).2]
theorem T_keep (x : Int32) : Two qF_keep [.ref 0, .int x] qR_keep [.ref 373, .int x] (am_ctt 19) := by
  intro d hC hR J
  have J0 := J.thr (Int32.ofNat 0)
  rcases rng_cases 100 (by omega) x with ⟨n, hn, rfl⟩ | ⟨b1, b2⟩
  · obtain ⟨N, G, hC2, hR2, L2, q1, q2, q3, q4, J3, e1, v, e2⟩ := ahead_both J0 hn (D := d + 119) (by omega)
    obtain ⟨R, okt, okc, okk, RL⟩ := id L2
    have hN := R.1
    have r3 := R.2.2.1
    have cs := cnt_01 (W := hR2.2 374) (N := N) (fun c hc => (okc c hc).2.2.2.2.2.2.2.1)
    have eb := (bset_N (fun c => decide (hR2.2 374 (43 + 9 * c + 7) = (Int32.ofNat 1))) (N := N) (by omega)).2
    have es : N - cnt (fun c => decide (hR2.2 374 (43 + 9 * c + 7) = (Int32.ofNat 1))) N = cnt (fun c => decide (hR2.2 374 (43 + 9 * c + 7) = (Int32.ofNat 0))) N := by omega
    have eg : ∀ d, am_cl (d + 1) qR_keepsAll [.ref 373] (am_up hR 373 0 (Int32.ofNat 0)) = some (.inl none, lent (am_up hR 373 0 (Int32.ofNat 0))) := fun d => rR_keepsAll d _
    have ebb : ∀ d, am_cl (d + 1) qR_bringsBack [.ref 373] hR2 = some (.inl none, given hR2) := fun d => rR_bringsBack d _
    refine ⟨hC2, given hR2, J3, q2, Or.inl ⟨(Int32.ofNat (cnt (fun c => decide (hR2.2 374 (43 + 9 * c + 7) = (Int32.ofNat 0))) N)), q1, ?_, ?_, ?_⟩⟩
    · unfold given
      rw [cw_ne (by omega), q3]; exact up_eq rfl rfl
    · simp -implicitDefEqProofs (disch := (first | omega | assumption | exact am_isS_3 | exact am_isS_25 | exact am_isX_356 | exact am_isX_359)) only [uF_keep, ggF_keep_0, ccF_keep_0_3, ccF_keep_0_2, ccF_keep_0_1, xF_needAhead, e1, hm25 R, am_kI_x, am_kV_x, am_kI_i, am_nI_i, am_kV_i, am_nV_i, ↓reduceIte, eq_self, if_true, if_false, c_in, c_tn, pn_add, pn_mul, pn_subc, pn_addm, c_le_t, c_le_f, c_lt_t, c_lt_f, c_eq_f, c_eqm, bi_z, bi_1, bi_b, bi_T, bi_F, ite_not, up_eq, up_ne, or_self, or_true, true_or, or_false, false_or, and_true, true_and, and_self, not_true_eq_false, not_false_eq_true, Bool.false_eq_true]
    · simp -implicitDefEqProofs (disch := (first | omega | assumption | exact am_isS_3 | exact am_isS_25 | exact am_isX_356 | exact am_isX_359)) only [uR_keep, ggR_keep_0, ggR_keep_1, ggR_keep_2, ccR_keep_0_2, ccR_keep_0_1, ccR_keep_2_6, ccR_keep_2_5, ccR_keep_2_4, ccR_keep_2_3, ccR_keep_2_2, ccR_keep_2_1, rR_noAhead, rR_throwsIf_f, eg, e2, rR_children, r3, rR_openedOnes hN r3, rR_bc, eb, es, ebb, k_373, am_kI_x, am_kV_x, am_kI_i, am_nI_i, am_kV_i, am_nV_i, ↓reduceIte, eq_self, if_true, if_false, c_in, c_tn, pn_add, pn_mul, pn_subc, pn_addm, c_le_t, c_le_f, c_lt_t, c_lt_f, c_eq_f, c_eqm, bi_z, bi_1, bi_b, bi_T, bi_F, ite_not, up_eq, up_ne, or_self, or_true, true_or, or_false, false_or, and_true, true_and, and_self, not_true_eq_false, not_false_eq_true, Bool.false_eq_true]
  · refine ⟨am_th hC, am_up (am_up hR 373 0 (Int32.ofNat 0)) 373 0 (Int32.ofNat 1), (J0.thr (Int32.ofNat 1)).th, rfl, Or.inr ⟨1, 1, (Int32.ofNat 0), rfl, by decide, up_eq rfl rfl, ?_, ?_⟩⟩
    · simp -implicitDefEqProofs (disch := (first | omega | assumption | exact am_isS_3 | exact am_isS_25 | exact am_isX_356 | exact am_isX_359)) only [uF_keep, ggF_keep_0, ccF_keep_0_3, ccF_keep_0_2, ccF_keep_0_1, xF_needAhead_x b2, am_kI_x, am_kV_x, am_kI_i, am_nI_i, am_kV_i, am_nV_i, ↓reduceIte, eq_self, if_true, if_false, c_in, c_tn, pn_add, pn_mul, pn_subc, pn_addm, c_le_t, c_le_f, c_lt_t, c_lt_f, c_eq_f, c_eqm, bi_z, bi_1, bi_b, bi_T, bi_F, ite_not, up_eq, up_ne, or_self, or_true, true_or, or_false, false_or, and_true, true_and, and_self, not_true_eq_false, not_false_eq_true, Bool.false_eq_true]
    · simp -implicitDefEqProofs (disch := (first | omega | assumption | exact am_isS_3 | exact am_isS_25 | exact am_isX_356 | exact am_isX_359)) only [uR_keep, ggR_keep_0, ggR_keep_1, ggR_keep_2, ccR_keep_0_2, ccR_keep_0_1, ccR_keep_2_6, ccR_keep_2_5, ccR_keep_2_4, ccR_keep_2_3, ccR_keep_2_2, ccR_keep_2_1, rR_noAhead, rR_throwsIf_t, b1, k_373, am_kI_x, am_kV_x, am_kI_i, am_nI_i, am_kV_i, am_nV_i, ↓reduceIte, eq_self, if_true, if_false, c_in, c_tn, pn_add, pn_mul, pn_subc, pn_addm, c_le_t, c_le_f, c_lt_t, c_lt_f, c_eq_f, c_eqm, bi_z, bi_1, bi_b, bi_T, bi_F, ite_not, up_eq, up_ne, or_self, or_true, true_or, or_false, false_or, and_true, true_and, and_self, not_true_eq_false, not_false_eq_true, Bool.false_eq_true]
theorem T_fates (x : Int32) : Two qF_fates [.ref 0, .int x] qR_fates [.ref 373, .int x] (am_ctt 20) := by
  intro d hC hR J
  have J0 := J.thr (Int32.ofNat 0)
  rcases rng_cases 100 (by omega) x with ⟨n, hn, rfl⟩ | ⟨b1, b2⟩
  · obtain ⟨N, G, hC2, hR2, L2, q1, q2, q3, q4, J3, e1, v, e2⟩ := ahead_both J0 hn (D := d + 119) (by omega)
    obtain ⟨R, okt, okc, okk, RL⟩ := id L2
    have hN := R.1
    have r3 := R.2.2.1
    have eg : ∀ d, am_cl (d + 1) qR_keepsAll [.ref 373] (am_up hR 373 0 (Int32.ofNat 0)) = some (.inl none, lent (am_up hR 373 0 (Int32.ofNat 0))) := fun d => rR_keepsAll d _
    have ebb : ∀ d, am_cl (d + 1) qR_bringsBack [.ref 373] hR2 = some (.inl none, given hR2) := fun d => rR_bringsBack d _
    refine ⟨hC2, given hR2, J3, q2, Or.inl ⟨sum (fun c => hR2.2 374 (43 + 9 * c + 6)) N, q1, ?_, ?_, ?_⟩⟩
    · unfold given
      rw [cw_ne (by omega), q3]; exact up_eq rfl rfl
    · simp -implicitDefEqProofs (disch := (first | omega | assumption | exact am_isS_3 | exact am_isS_25 | exact am_isX_356 | exact am_isX_359)) only [uF_fates, ggF_fates_0, ccF_fates_0_3, ccF_fates_0_2, ccF_fates_0_1, xF_needAhead, e1, af_rel am_isS_25 R, am_kI_x, am_kV_x, am_kI_i, am_nI_i, am_kV_i, am_nV_i, ↓reduceIte, eq_self, if_true, if_false, c_in, c_tn, pn_add, pn_mul, pn_subc, pn_addm, c_le_t, c_le_f, c_lt_t, c_lt_f, c_eq_f, c_eqm, bi_z, bi_1, bi_b, bi_T, bi_F, ite_not, up_eq, up_ne, or_self, or_true, true_or, or_false, false_or, and_true, true_and, and_self, not_true_eq_false, not_false_eq_true, Bool.false_eq_true]
    · simp -implicitDefEqProofs (disch := (first | omega | assumption | exact am_isS_3 | exact am_isS_25 | exact am_isX_356 | exact am_isX_359)) only [uR_fates, ggR_fates_0, ggR_fates_1, ggR_fates_2, ccR_fates_0_2, ccR_fates_0_1, ccR_fates_2_4, ccR_fates_2_3, ccR_fates_2_2, ccR_fates_2_1, rR_noAhead, rR_throwsIf_f, eg, e2, rR_fateOfAll hN r3, ebb, k_373, am_kI_x, am_kV_x, am_kI_i, am_nI_i, am_kV_i, am_nV_i, ↓reduceIte, eq_self, if_true, if_false, c_in, c_tn, pn_add, pn_mul, pn_subc, pn_addm, c_le_t, c_le_f, c_lt_t, c_lt_f, c_eq_f, c_eqm, bi_z, bi_1, bi_b, bi_T, bi_F, ite_not, up_eq, up_ne, or_self, or_true, true_or, or_false, false_or, and_true, true_and, and_self, not_true_eq_false, not_false_eq_true, Bool.false_eq_true]
  · refine ⟨am_th hC, am_up (am_up hR 373 0 (Int32.ofNat 0)) 373 0 (Int32.ofNat 1), (J0.thr (Int32.ofNat 1)).th, rfl, Or.inr ⟨1, 1, (Int32.ofNat 0), rfl, by decide, up_eq rfl rfl, ?_, ?_⟩⟩
    · simp -implicitDefEqProofs (disch := (first | omega | assumption | exact am_isS_3 | exact am_isS_25 | exact am_isX_356 | exact am_isX_359)) only [uF_fates, ggF_fates_0, ccF_fates_0_3, ccF_fates_0_2, ccF_fates_0_1, xF_needAhead_x b2, am_kI_x, am_kV_x, am_kI_i, am_nI_i, am_kV_i, am_nV_i, ↓reduceIte, eq_self, if_true, if_false, c_in, c_tn, pn_add, pn_mul, pn_subc, pn_addm, c_le_t, c_le_f, c_lt_t, c_lt_f, c_eq_f, c_eqm, bi_z, bi_1, bi_b, bi_T, bi_F, ite_not, up_eq, up_ne, or_self, or_true, true_or, or_false, false_or, and_true, true_and, and_self, not_true_eq_false, not_false_eq_true, Bool.false_eq_true]
    · simp -implicitDefEqProofs (disch := (first | omega | assumption | exact am_isS_3 | exact am_isS_25 | exact am_isX_356 | exact am_isX_359)) only [uR_fates, ggR_fates_0, ggR_fates_1, ggR_fates_2, ccR_fates_0_2, ccR_fates_0_1, ccR_fates_2_4, ccR_fates_2_3, ccR_fates_2_2, ccR_fates_2_1, rR_noAhead, rR_throwsIf_t, b1, k_373, am_kI_x, am_kV_x, am_kI_i, am_nI_i, am_kV_i, am_nV_i, ↓reduceIte, eq_self, if_true, if_false, c_in, c_tn, pn_add, pn_mul, pn_subc, pn_addm, c_le_t, c_le_f, c_lt_t, c_lt_f, c_eq_f, c_eqm, bi_z, bi_1, bi_b, bi_T, bi_F, ite_not, up_eq, up_ne, or_self, or_true, true_or, or_false, false_or, and_true, true_and, and_self, not_true_eq_false, not_false_eq_true, Bool.false_eq_true]
