/-! what is meant for one who is born -/
def pick (w : Nat → Nat) (D : Nat) : Nat → Nat → Nat
  | 0, t => t
  | k + 1, t => if D < nsum w (t + 1) then t else pick w D k (t + 1)
theorem pick_le {w : Nat → Nat} {D : Nat} : ∀ k t, pick w D k t ≤ t + k := by
  intro k
  induction k with
  | zero => intro t; exact Nat.le_refl _
  | succ k ih =>
    intro t
    unfold pick
    have := ih (t + 1)
    split <;> omega
theorem nsum_S {f : Nat → Nat} {n : Nat} : nsum f (n + 1) = nsum f n + f n := rfl
theorem sum_N {f : Nat → Int32} {w : Nat → Nat} : ∀ {n : Nat}, (∀ t, t < n → f t = (Int32.ofNat (w t))) → sum f n = (Int32.ofNat (nsum w n)) := by
  intro n
  induction n with
  | zero => intro _; rfl
  | succ n ih =>
    intro h
    have ih := ih (fun t ht => h t (by omega))
    unfold sum at ih ⊢
    rw [itr_succ, ih, Nat.zero_add, h n (by omega), pn_add, nsum_S]
theorem nsum_le {w : Nat → Nat} {b : Nat} : ∀ {n : Nat}, (∀ t, t < n → w t ≤ b) → nsum w n ≤ b * n := by
  intro n
  induction n with
  | zero => intro _; exact Nat.le_refl _
  | succ n ih =>
    intro h
    have := ih (fun t ht => h t (by omega))
    have h2 := h n (by omega)
    rw [nsum_S, Nat.mul_succ]
    omega
theorem wt_nat {W : Nat → Int32} (H : okT W) : ∃ w : Nat → Nat, ∀ t, t < 9 → w t ≤ 9 ∧ wt W t = (Int32.ofNat (w t)) := by
  refine ⟨fun t => (wt W t).toNatClampNeg, fun t ht => ?_⟩
  obtain ⟨n, hn, e⟩ := wt_rg H ht
  show (wt W t).toNatClampNeg ≤ 9 ∧ wt W t = (Int32.ofNat ((wt W t).toNatClampNeg))
  rw [e, c_tn (by omega)]
  exact ⟨by omega, rfl⟩
theorem meant_both {hC hR : am_H} {N G : Nat} (L : Lk hC hR 3 N G) (d : Nat) : ∃ v hC' hR', v < 9 ∧ am_cl (d + 2) qS_drawThing [.ref 3] hC = some (.inl (some ((Int32.ofNat v))), hC') ∧ am_cl (d + 5) qR_isMeant [.ref 373] hR = some (.inl (some ((Int32.ofNat v))), hR') ∧ Lk hC' hR' 3 N G ∧ hC'.1 = hC.1 ∧ hR'.1 = hR.1 ∧ (∀ p, p < 3 ∨ 25 ≤ p → hC'.2 p = hC.2 p) ∧ (∀ p, p ≠ 374 → hR'.2 p = hR.2 p) := by
  obtain ⟨R, okt, okc, okk, RL⟩ := id L
  obtain ⟨w, hw⟩ := wt_nat okt
  have hS := nsum_le (w := w) (b := 9) (n := 9) (fun t ht => (hw t ht).1)
  have eS : sum (fun t => wt (hR.2 374) t) 9 = (Int32.ofNat (nsum w 9)) := sum_N (fun t ht => (hw t ht).2)
  have aw : ∀ d, am_cl (d + 1) qS_allWeights [.ref 3] hC = some (.inl (some ((Int32.ofNat (nsum w 9)))), hC) := fun d => by rw [aw_rel am_isS_3 R d, eS]
  have awR : ∀ d, am_cl (d + 4) qR_allWeights [.ref 373] hR = some (.inl (some ((Int32.ofNat (nsum w 9)))), hR) := fun d => by rw [rR_allWeights d hR, eS]
  by_cases h0 : nsum w 9 = 0
  · refine ⟨8, hC, hR, by omega, ?_, ?_, L, rfl, rfl, fun _ _ => rfl, fun _ _ => rfl⟩
    · rw [h0] at aw
      simp -implicitDefEqProofs (disch := (first | omega | assumption | exact am_isS_3 | exact am_isS_25 | exact am_isX_356 | exact am_isX_359)) only [uS_drawThing, ggS_drawThing_0, ggS_drawThing_1, ggS_drawThing_2, ggS_drawThing_4, ggS_drawThing_5, ggS_drawThing_6, ggS_drawThing_7, ccS_drawThing_0_1, ccS_drawThing_2_1, aw, am_kI_x, am_kV_x, am_kI_i, am_nI_i, am_kV_i, am_nV_i, ↓reduceIte, eq_self, if_true, if_false, c_in, c_tn, pn_add, pn_mul, pn_subc, pn_addm, c_le_t, c_le_f, c_lt_t, c_lt_f, c_eq_f, c_eqm, bi_z, bi_1, bi_b, bi_T, bi_F, ite_not, up_eq, up_ne, or_self, or_true, true_or, or_false, false_or, and_true, true_and, and_self, not_true_eq_false, not_false_eq_true, Bool.false_eq_true]
    · rw [h0] at awR
      simp -implicitDefEqProofs (disch := (first | omega | assumption | exact am_isS_3 | exact am_isS_25 | exact am_isX_356 | exact am_isX_359)) only [uR_isMeant, ggR_isMeant_0, ggR_isMeant_1, ggR_isMeant_2, ggR_isMeant_4, ggR_isMeant_5, ccR_isMeant_0_1, ccR_isMeant_2_2, ccR_isMeant_2_1, ccR_isMeant_3_1, ccR_isMeant_4_1, awR, am_kI_x, am_kV_x, am_kI_i, am_nI_i, am_kV_i, am_nV_i, ↓reduceIte, eq_self, if_true, if_false, c_in, c_tn, pn_add, pn_mul, pn_subc, pn_addm, c_le_t, c_le_f, c_lt_t, c_lt_f, c_eq_f, c_eqm, bi_z, bi_1, bi_b, bi_T, bi_F, ite_not, up_eq, up_ne, or_self, or_true, true_or, or_false, false_or, and_true, true_and, and_self, not_true_eq_false, not_false_eq_true, Bool.false_eq_true]
  · have e7 : hC.2 3 7 = hR.2 374 6 := R.2.2.2.2.2.2.2.2.1
    have hdm := (dm_eq (sd (hR.2 374 6))).2
    have hD : dm (sd (hR.2 374 6)) % nsum w 9 < nsum w 9 := Nat.mod_lt _ (by omega)
    generalize hDD : dm (sd (hR.2 374 6)) % nsum w 9 = D at hD
    have lC : ∀ (hq : am_H), (∀ t, t < 9 → hq.2 (3 + 2 + 0) t = (Int32.ofNat (w t))) → ∀ k t, t + k = 8 → nsum w t ≤ D → am_go (am_cl (d + 1)) qS_drawThing 3 [.ref 3, .int (Int32.ofNat (nsum w 9)), .int (Int32.ofNat D), .int (Int32.ofNat (nsum w t)), .int (Int32.ofNat t)] [] hq = some (.inl (some ((Int32.ofNat (pick w D k t)))), hq) := by
      intro hq eq k
      induction k with
      | zero =>
        intro t ht _
        have ht : t = 8 := by omega
        subst ht
        rw [ggS_drawThing_3 _ _ _ _ _ _ am_isS_3]
        simp -implicitDefEqProofs (disch := (first | omega | assumption | exact am_isS_3 | exact am_isS_25 | exact am_isX_356 | exact am_isX_359)) only [ggS_drawThing_0, ggS_drawThing_1, ggS_drawThing_2, ggS_drawThing_4, ggS_drawThing_5, ggS_drawThing_6, ggS_drawThing_7, ccS_drawThing_0_1, ccS_drawThing_2_1, pick, am_kI_x, am_kV_x, am_kI_i, am_nI_i, am_kV_i, am_nV_i, ↓reduceIte, eq_self, if_true, if_false, c_in, c_tn, pn_add, pn_mul, pn_subc, pn_addm, c_le_t, c_le_f, c_lt_t, c_lt_f, c_eq_f, c_eqm, bi_z, bi_1, bi_b, bi_T, bi_F, ite_not, up_eq, up_ne, or_self, or_true, true_or, or_false, false_or, and_true, true_and, and_self, not_true_eq_false, not_false_eq_true, Bool.false_eq_true]
      | succ k ih =>
        intro t ht hle
        have et := eq t (by omega)
        have hb := nsum_le (w := w) (b := 9) (n := t) (fun i hi => (hw i (by omega)).1)
        have hb2 := (hw t (by omega)).1
        rw [ggS_drawThing_3 _ _ _ _ _ _ am_isS_3]
        by_cases hlt : D < nsum w (t + 1)
        · have hlt2 : D < nsum w t + w t := hlt
          simp -implicitDefEqProofs (disch := (first | omega | assumption | exact am_isS_3 | exact am_isS_25 | exact am_isX_356 | exact am_isX_359)) only [ggS_drawThing_0, ggS_drawThing_1, ggS_drawThing_2, ggS_drawThing_4, ggS_drawThing_5, ggS_drawThing_6, ggS_drawThing_7, ccS_drawThing_0_1, ccS_drawThing_2_1, et, pick, hlt, am_kI_x, am_kV_x, am_kI_i, am_nI_i, am_kV_i, am_nV_i, ↓reduceIte, eq_self, if_true, if_false, c_in, c_tn, pn_add, pn_mul, pn_subc, pn_addm, c_le_t, c_le_f, c_lt_t, c_lt_f, c_eq_f, c_eqm, bi_z, bi_1, bi_b, bi_T, bi_F, ite_not, up_eq, up_ne, or_self, or_true, true_or, or_false, false_or, and_true, true_and, and_self, not_true_eq_false, not_false_eq_true, Bool.false_eq_true]
        · have hlt2 : nsum w t + w t ≤ D := by have h : ¬ D < nsum w t + w t := hlt; omega
          have ih := ih (t + 1) (by omega) hlt2
          rw [nsum_S] at ih
          simp -implicitDefEqProofs (disch := (first | omega | assumption | exact am_isS_3 | exact am_isS_25 | exact am_isX_356 | exact am_isX_359)) only [ggS_drawThing_0, ggS_drawThing_1, ggS_drawThing_2, ggS_drawThing_4, ggS_drawThing_5, ggS_drawThing_6, ggS_drawThing_7, ccS_drawThing_0_1, ccS_drawThing_2_1, et, pick, hlt, am_kI_x, am_kV_x, am_kI_i, am_nI_i, am_kV_i, am_nV_i, ↓reduceIte, eq_self, if_true, if_false, c_in, c_tn, pn_add, pn_mul, pn_subc, pn_addm, c_le_t, c_le_f, c_lt_t, c_lt_f, c_eq_f, c_eqm, bi_z, bi_1, bi_b, bi_T, bi_F, ite_not, up_eq, up_ne, or_self, or_true, true_or, or_false, false_or, and_true, true_and, and_self, not_true_eq_false, not_false_eq_true, Bool.false_eq_true]
          exact ih
    have lR : ∀ (hq : am_H), (∀ t, t < 9 → wt (hq.2 374) t = (Int32.ofNat (w t))) → ∀ k t, t + k = 8 → nsum w t ≤ D → am_go (am_cl (d + 4)) qR_isMeant 3 [.ref 373, .int (Int32.ofNat (D - nsum w t)), .int (Int32.ofNat t)] [] hq = some (.inl (some ((Int32.ofNat (pick w D k t)))), hq) := by
      intro hq eq k
      induction k with
      | zero =>
        intro t ht hle
        have ht : t = 8 := by omega
        subst ht
        have e8 := eq 8 (by omega)
        have hb := (hw 8 (by omega)).1
        have h9 : D < nsum w 8 + w 8 := hD
        rw [ggR_isMeant_3]
        simp -implicitDefEqProofs (disch := (first | omega | assumption | exact am_isS_3 | exact am_isS_25 | exact am_isX_356 | exact am_isX_359)) only [ggR_isMeant_0, ggR_isMeant_1, ggR_isMeant_2, ggR_isMeant_4, ggR_isMeant_5, ccR_isMeant_0_1, ccR_isMeant_2_2, ccR_isMeant_2_1, ccR_isMeant_3_1, ccR_isMeant_4_1, rR_wt, e8, pick, am_kI_x, am_kV_x, am_kI_i, am_nI_i, am_kV_i, am_nV_i, ↓reduceIte, eq_self, if_true, if_false, c_in, c_tn, pn_add, pn_mul, pn_subc, pn_addm, c_le_t, c_le_f, c_lt_t, c_lt_f, c_eq_f, c_eqm, bi_z, bi_1, bi_b, bi_T, bi_F, ite_not, up_eq, up_ne, or_self, or_true, true_or, or_false, false_or, and_true, true_and, and_self, not_true_eq_false, not_false_eq_true, Bool.false_eq_true]
      | succ k ih =>
        intro t ht hle
        have et := eq t (by omega)
        have hb2 := (hw t (by omega)).1
        rw [ggR_isMeant_3]
        by_cases hlt : D < nsum w (t + 1)
        · have hlt2 : D < nsum w t + w t := hlt
          simp -implicitDefEqProofs (disch := (first | omega | assumption | exact am_isS_3 | exact am_isS_25 | exact am_isX_356 | exact am_isX_359)) only [ggR_isMeant_0, ggR_isMeant_1, ggR_isMeant_2, ggR_isMeant_4, ggR_isMeant_5, ccR_isMeant_0_1, ccR_isMeant_2_2, ccR_isMeant_2_1, ccR_isMeant_3_1, ccR_isMeant_4_1, rR_wt, et, pick, hlt, am_kI_x, am_kV_x, am_kI_i, am_nI_i, am_kV_i, am_nV_i, ↓reduceIte, eq_self, if_true, if_false, c_in, c_tn, pn_add, pn_mul, pn_subc, pn_addm, c_le_t, c_le_f, c_lt_t, c_lt_f, c_eq_f, c_eqm, bi_z, bi_1, bi_b, bi_T, bi_F, ite_not, up_eq, up_ne, or_self, or_true, true_or, or_false, false_or, and_true, true_and, and_self, not_true_eq_false, not_false_eq_true, Bool.false_eq_true]
        · have hlt2 : nsum w t + w t ≤ D := by have h : ¬ D < nsum w t + w t := hlt; omega
          have ih := ih (t + 1) (by omega) hlt2
          rw [nsum_S, show D - (nsum w t + w t) = D - nsum w t - w t by omega] at ih
          simp -implicitDefEqProofs (disch := (first | omega | assumption | exact am_isS_3 | exact am_isS_25 | exact am_isX_356 | exact am_isX_359)) only [ggR_isMeant_0, ggR_isMeant_1, ggR_isMeant_2, ggR_isMeant_4, ggR_isMeant_5, ccR_isMeant_0_1, ccR_isMeant_2_2, ccR_isMeant_2_1, ccR_isMeant_3_1, ccR_isMeant_4_1, rR_wt, et, pick, hlt, am_kI_x, am_kV_x, am_kI_i, am_nI_i, am_kV_i, am_nV_i, ↓reduceIte, eq_self, if_true, if_false, c_in, c_tn, pn_add, pn_mul, pn_subc, pn_addm, c_le_t, c_le_f, c_lt_t, c_lt_f, c_eq_f, c_eqm, bi_z, bi_1, bi_b, bi_T, bi_F, ite_not, up_eq, up_ne, or_self, or_true, true_or, or_false, false_or, and_true, true_and, and_self, not_true_eq_false, not_false_eq_true, Bool.false_eq_true]
          exact ih
    have wC : ∀ t, t < 9 → (am_up hC 3 7 (sd (hC.2 3 7))).2 (3 + 2 + 0) t = (Int32.ofNat (w t)) := fun t ht => by
      rw [up_ne (by omega), wt_rel R ht]; exact (hw t ht).2
    have wR : ∀ t, t < 9 → wt ((am_up hR 374 6 (sd (hR.2 374 6))).2 374) t = (Int32.ofNat (w t)) := fun t ht => by
      rw [← (hw t ht).2]
      unfold wt
      rw [up_ne (by omega), up_ne (by omega)]
    have hp := pick_le (w := w) (D := D) 8 0
    refine ⟨pick w D 8 0, am_up hC 3 7 (sd (hC.2 3 7)), am_up hR 374 6 (sd (hR.2 374 6)), by omega, ?_, ?_, ?_, rfl, rfl, fun p hp => up_o (by omega), fun p hp => up_o hp⟩
    · have l := lC _ wC 8 0 (by omega) (Nat.zero_le _)
      have ed := xS_draw am_isS_3 d hC
      rw [e7] at ed l ⊢
      simp -implicitDefEqProofs (disch := (first | omega | assumption | exact am_isS_3 | exact am_isS_25 | exact am_isX_356 | exact am_isX_359)) only [uS_drawThing, ggS_drawThing_0, ggS_drawThing_1, ggS_drawThing_2, ggS_drawThing_4, ggS_drawThing_5, ggS_drawThing_6, ggS_drawThing_7, ccS_drawThing_0_1, ccS_drawThing_2_1, aw, ed, pn_mod, hDD, am_kI_x, am_kV_x, am_kI_i, am_nI_i, am_kV_i, am_nV_i, ↓reduceIte, eq_self, if_true, if_false, c_in, c_tn, pn_add, pn_mul, pn_subc, pn_addm, c_le_t, c_le_f, c_lt_t, c_lt_f, c_eq_f, c_eqm, bi_z, bi_1, bi_b, bi_T, bi_F, ite_not, up_eq, up_ne, or_self, or_true, true_or, or_false, false_or, and_true, true_and, and_self, not_true_eq_false, not_false_eq_true, Bool.false_eq_true]
      exact l
    · have l := lR _ wR 8 0 (by omega) (Nat.zero_le _)
      simp -implicitDefEqProofs (disch := (first | omega | assumption | exact am_isS_3 | exact am_isS_25 | exact am_isX_356 | exact am_isX_359)) only [uR_isMeant, ggR_isMeant_0, ggR_isMeant_1, ggR_isMeant_2, ggR_isMeant_4, ggR_isMeant_5, ccR_isMeant_0_1, ccR_isMeant_2_2, ccR_isMeant_2_1, ccR_isMeant_3_1, ccR_isMeant_4_1, awR, rR_drawn, hDD, am_kI_x, am_kV_x, am_kI_i, am_nI_i, am_kV_i, am_nV_i, ↓reduceIte, eq_self, if_true, if_false, c_in, c_tn, pn_add, pn_mul, pn_subc, pn_addm, c_le_t, c_le_f, c_lt_t, c_lt_f, c_eq_f, c_eqm, bi_z, bi_1, bi_b, bi_T, bi_F, ite_not, up_eq, up_ne, or_self, or_true, true_or, or_false, false_or, and_true, true_and, and_self, not_true_eq_false, not_false_eq_true, Bool.false_eq_true]
      exact l
    · rw [e7]; exact L.sd (by omega) _
theorem T_birth : Two qF_birth [.ref 0] qR_birth [.ref 373] (am_ctt 5) := by
  intro d hC hR J
  have J0 := J.thr (Int32.ofNat 0)
  obtain ⟨⟨N, G, R, okt, okc, okk, RL⟩, -⟩ := id J
  have hN := R.1
  have r3 := R.2.2.1
  have r4 := R.2.2.2.1
  by_cases h8 : N = 8
  · subst h8
    refine ⟨am_th hC, am_up (am_up hR 373 0 (Int32.ofNat 0)) 373 0 (Int32.ofNat 1), (J0.thr (Int32.ofNat 1)).th, rfl, Or.inr ⟨2, 1, (Int32.ofNat 0), rfl, by decide, up_eq rfl rfl, ?_, ?_⟩⟩
    · simp -implicitDefEqProofs (disch := (first | omega | assumption | exact am_isS_3 | exact am_isS_25 | exact am_isX_356 | exact am_isX_359)) only [uF_birth, ggF_birth_0, ggF_birth_1, ggF_birth_2, ccF_birth_2_3, ccF_birth_2_2, ccF_birth_2_1, r4, am_kI_x, am_kV_x, am_kI_i, am_nI_i, am_kV_i, am_nV_i, ↓reduceIte, eq_self, if_true, if_false, c_in, c_tn, pn_add, pn_mul, pn_subc, pn_addm, c_le_t, c_le_f, c_lt_t, c_lt_f, c_eq_f, c_eqm, bi_z, bi_1, bi_b, bi_T, bi_F, ite_not, up_eq, up_ne, or_self, or_true, true_or, or_false, false_or, and_true, true_and, and_self, not_true_eq_false, not_false_eq_true, Bool.false_eq_true]
    · simp -implicitDefEqProofs (disch := (first | omega | assumption | exact am_isS_3 | exact am_isS_25 | exact am_isX_356 | exact am_isX_359)) only [uR_birth, ggR_birth_0, ggR_birth_1, ggR_birth_2, ggR_birth_3, ggR_birth_4, ggR_birth_5, ccR_birth_0_1, ccR_birth_3_1, ccR_birth_5_4, ccR_birth_5_3, ccR_birth_5_2, ccR_birth_5_1, rR_children, rR_throwsIf_t, up_o, r3, k_373, am_kI_x, am_kV_x, am_kI_i, am_nI_i, am_kV_i, am_nV_i, ↓reduceIte, eq_self, if_true, if_false, c_in, c_tn, pn_add, pn_mul, pn_subc, pn_addm, c_le_t, c_le_f, c_lt_t, c_lt_f, c_eq_f, c_eqm, bi_z, bi_1, bi_b, bi_T, bi_F, ite_not, up_eq, up_ne, or_self, or_true, true_or, or_false, false_or, and_true, true_and, and_self, not_true_eq_false, not_false_eq_true, Bool.false_eq_true]
  · obtain ⟨hC1, hR1, J1, a1, a2, eC, eR, fC, fR, f7⟩ := remember_both J0 (d + 116) (d + 118)
    have fW : hR1.2 374 = hR.2 374 := by rw [fR 374 (by omega) (by omega), up_o (by omega)]
    have L : Lk hC1 hR1 3 N G := Lk.of (hC := hC) (hR := hR) ⟨R, okt, okc, okk, RL⟩ (fun p h1 h2 => fC p (by omega)) (fun p h1 h2 => fC p (by omega)) (fun j _ => by rw [fW])
    obtain ⟨v, hC2, hR2, hv, eC2, eR2, L2, b1, b2, gC, gR⟩ := meant_both L (d + 113)
    obtain ⟨hC3, eC3, L3, fr3⟩ := born_both am_isS_3 (by omega) L2 (by omega) hv (d + 118)
    have eb := rR_isBorn (N := N) (by omega) L2.1.2.2.1 (Int32.ofNat v) (d + 117)
    have e0 : (cw hR2 374 (bornW (hR2.2 374) N (Int32.ofNat v))).2 374 0 = (Int32.ofNat (N + 1)) := by rw [cw_eq]; unfold bornW; exact pu_eq rfl
    refine ⟨hC3, cw hR2 374 (bornW (hR2.2 374) N (Int32.ofNat v)), J1.lk L3 (fun p h1 h2 h3 => by rw [fr3.2 p (by omega) h2 h3, gC p h1]) (fun p h1 h2 => by rw [cw_ne h1, gR p h1]), by rw [cw_1]; exact b2.trans a2, Or.inl ⟨(Int32.ofNat N), fr3.1.trans (b1.trans a1), ?_, ?_, ?_⟩⟩
    · rw [cw_ne (by omega), gR 373 (by omega), f7 0 (by omega)]; exact up_eq rfl rfl
    · have eC2 : am_cl (d + 119) qS_drawThing [.ref 3] hC1 = _ := am_cl_le (by omega) eC2
      simp -implicitDefEqProofs (disch := (first | omega | assumption | exact am_isS_3 | exact am_isS_25 | exact am_isX_356 | exact am_isX_359)) only [uF_birth, ggF_birth_0, ggF_birth_1, ggF_birth_2, ccF_birth_2_3, ccF_birth_2_2, ccF_birth_2_1, r4, eC, eC2, eC3, am_kI_x, am_kV_x, am_kI_i, am_nI_i, am_kV_i, am_nV_i, ↓reduceIte, eq_self, if_true, if_false, c_in, c_tn, pn_add, pn_mul, pn_subc, pn_addm, c_le_t, c_le_f, c_lt_t, c_lt_f, c_eq_f, c_eqm, bi_z, bi_1, bi_b, bi_T, bi_F, ite_not, up_eq, up_ne, or_self, or_true, true_or, or_false, false_or, and_true, true_and, and_self, not_true_eq_false, not_false_eq_true, Bool.false_eq_true]
    · have eR2 : am_cl (d + 119) qR_isMeant [.ref 373] hR1 = _ := am_cl_le (by omega) eR2
      simp -implicitDefEqProofs (disch := (first | omega | assumption | exact am_isS_3 | exact am_isS_25 | exact am_isX_356 | exact am_isX_359)) only [uR_birth, ggR_birth_0, ggR_birth_1, ggR_birth_2, ggR_birth_3, ggR_birth_4, ggR_birth_5, ccR_birth_0_1, ccR_birth_3_1, ccR_birth_5_4, ccR_birth_5_3, ccR_birth_5_2, ccR_birth_5_1, rR_children, rR_throwsIf_f, up_o, r3, k_373, eR, eR2, eb, e0, Nat.add_sub_cancel, am_kI_x, am_kV_x, am_kI_i, am_nI_i, am_kV_i, am_nV_i, ↓reduceIte, eq_self, if_true, if_false, c_in, c_tn, pn_add, pn_mul, pn_subc, pn_addm, c_le_t, c_le_f, c_lt_t, c_lt_f, c_eq_f, c_eqm, bi_z, bi_1, bi_b, bi_T, bi_F, ite_not, up_eq, up_ne, or_self, or_true, true_or, or_false, false_or, and_true, true_and, and_self, not_true_eq_false, not_false_eq_true, Bool.false_eq_true]
