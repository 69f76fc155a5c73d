/-! calls with an argument that may be none -/
theorem rng_cases (k : Nat) (hk : k < 1000000) (x : Int32) : (∃ n, n ≤ k ∧ x = (Int32.ofNat n)) ∨ (((Int32.ofNat 0) ≤ x ∧ x ≤ (Int32.ofNat k)) = False ∧ ((x < (Int32.ofNat 0)) = True ∨ (x < (Int32.ofNat 0)) = False ∧ (x ≤ (Int32.ofNat k)) = False ∧ (x < (Int32.ofNat (k + 1))) = False)) := by
  by_cases h1 : x < (Int32.ofNat 0)
  · right
    refine ⟨eq_false (fun q => ?_), Or.inl (eq_true h1)⟩
    have := q.1
    rw [Int32.le_iff_toInt_le] at this
    rw [Int32.lt_iff_toInt_lt] at h1
    omega
  · by_cases h2 : x ≤ (Int32.ofNat k)
    · left
      have a := h1
      have b := h2
      rw [Int32.lt_iff_toInt_lt] at a
      rw [Int32.le_iff_toInt_le, pn_toInt (by omega)] at b
      have e0 : ((Int32.ofNat 0) : Int32).toInt = 0 := by decide
      rw [e0] at a
      refine ⟨x.toInt.toNat, by omega, ?_⟩
      apply Int32.toInt_inj.mp
      rw [pn_toInt (by omega)]
      omega
    · right
      refine ⟨eq_false (fun q => h2 q.2), Or.inr ⟨eq_false h1, eq_false h2, eq_false (fun q => h2 ?_)⟩⟩
      rw [Int32.le_iff_toInt_le, pn_toInt (by omega)]
      rw [Int32.lt_iff_toInt_lt, pn_toInt (by omega)] at q
      omega
theorem ch_cases {N : Nat} (hN : N ≤ 8) (x : Int32) : (∃ c, c < N ∧ x = (Int32.ofNat c)) ∨ (((Int32.ofNat 0) ≤ x ∧ x ≤ (Int32.ofNat N) - (Int32.ofNat 1)) = False ∧ ((x < (Int32.ofNat 0)) = True ∨ (x < (Int32.ofNat 0)) = False ∧ (x < (Int32.ofNat N)) = False)) := by
  by_cases h0 : N = 0
  · subst h0
    right
    have e : ((Int32.ofNat 0) - (Int32.ofNat 1) : Int32) = -1 := by decide
    rw [e]
    refine ⟨eq_false (fun q => ?_), ?_⟩
    · obtain ⟨a, b⟩ := q
      rw [Int32.le_iff_toInt_le] at a b
      have e0 : ((Int32.ofNat 0) : Int32).toInt = 0 := by decide
      have e1 : ((-1 : Int32)).toInt = -1 := by decide
      omega
    · by_cases h : x < (Int32.ofNat 0)
      · exact Or.inl (eq_true h)
      · exact Or.inr ⟨eq_false h, eq_false h⟩
  · have e : ((Int32.ofNat N) - (Int32.ofNat 1) : Int32) = (Int32.ofNat (N - 1)) := pn_sub (by omega)
    rw [e]
    rcases rng_cases (N - 1) (by omega) x with ⟨n, h1, h2⟩ | ⟨a, b⟩
    · exact Or.inl ⟨n, by omega, h2⟩
    · right
      refine ⟨a, ?_⟩
      rcases b with b | ⟨b, c, d⟩
      · exact Or.inl b
      · rw [show N - 1 + 1 = N by omega] at d
        exact Or.inr ⟨b, d⟩
theorem xF_needChild {h : am_H} {N c : Nat} (hN : N ≤ 8) (e : h.2 3 3 = (Int32.ofNat N)) (hc : c < N) (d : Nat) : am_cl (d + 1) qF_needChild [.ref 0, .int (Int32.ofNat c)] h = some (.inl none, h) := by simp -implicitDefEqProofs (disch := (first | omega | assumption | exact am_isS_3 | exact am_isS_25 | exact am_isX_356 | exact am_isX_359)) only [uF_needChild, ggF_needChild_0, ggF_needChild_1, ggF_needChild_2, ggF_needChild_3, e, am_kI_x, am_kV_x, am_kI_i, am_nI_i, am_kV_i, am_nV_i, ↓reduceIte, eq_self, if_true, if_false, c_in, c_tn, pn_add, pn_mul, pn_subc, pn_addm, c_le_t, c_le_f, c_lt_t, c_lt_f, c_eq_f, c_eqm, bi_z, bi_1, bi_b, bi_T, bi_F, ite_not, up_eq, up_ne, or_self, or_true, true_or, or_false, false_or, and_true, true_and, and_self, not_true_eq_false, not_false_eq_true, Bool.false_eq_true]
theorem xF_needChild_x {h : am_H} {N : Nat} {x : Int32} (e : h.2 3 3 = (Int32.ofNat N)) (hx : (x < (Int32.ofNat 0)) = True ∨ (x < (Int32.ofNat 0)) = False ∧ (x < (Int32.ofNat N)) = False) (d : Nat) : am_cl (d + 1) qF_needChild [.ref 0, .int x] h = some (.inr 3, am_th h) := by
  rcases hx with hx | ⟨h1, h2⟩
  · simp -implicitDefEqProofs (disch := (first | omega | assumption | exact am_isS_3 | exact am_isS_25 | exact am_isX_356 | exact am_isX_359)) only [uF_needChild, ggF_needChild_0, ggF_needChild_1, ggF_needChild_2, ggF_needChild_3, e, hx, am_kI_x, am_kV_x, am_kI_i, am_nI_i, am_kV_i, am_nV_i, ↓reduceIte, eq_self, if_true, if_false, c_in, c_tn, pn_add, pn_mul, pn_subc, pn_addm, c_le_t, c_le_f, c_lt_t, c_lt_f, c_eq_f, c_eqm, bi_z, bi_1, bi_b, bi_T, bi_F, ite_not, up_eq, up_ne, or_self, or_true, true_or, or_false, false_or, and_true, true_and, and_self, not_true_eq_false, not_false_eq_true, Bool.false_eq_true]
  · simp -implicitDefEqProofs (disch := (first | omega | assumption | exact am_isS_3 | exact am_isS_25 | exact am_isX_356 | exact am_isX_359)) only [uF_needChild, ggF_needChild_0, ggF_needChild_1, ggF_needChild_2, ggF_needChild_3, e, h1, h2, am_kI_x, am_kV_x, am_kI_i, am_nI_i, am_kV_i, am_nV_i, ↓reduceIte, eq_self, if_true, if_false, c_in, c_tn, pn_add, pn_mul, pn_subc, pn_addm, c_le_t, c_le_f, c_lt_t, c_lt_f, c_eq_f, c_eqm, bi_z, bi_1, bi_b, bi_T, bi_F, ite_not, up_eq, up_ne, or_self, or_true, true_or, or_false, false_or, and_true, true_and, and_self, not_true_eq_false, not_false_eq_true, Bool.false_eq_true]
theorem xF_needThing {t : Nat} (ht : t ≤ 7) (d : Nat) (h : am_H) : am_cl (d + 1) qF_needThing [.int (Int32.ofNat t)] h = some (.inl none, h) := by simp -implicitDefEqProofs (disch := (first | omega | assumption | exact am_isS_3 | exact am_isS_25 | exact am_isX_356 | exact am_isX_359)) only [uF_needThing, ggF_needThing_0, ggF_needThing_1, ggF_needThing_2, ggF_needThing_3, am_kI_x, am_kV_x, am_kI_i, am_nI_i, am_kV_i, am_nV_i, ↓reduceIte, eq_self, if_true, if_false, c_in, c_tn, pn_add, pn_mul, pn_subc, pn_addm, c_le_t, c_le_f, c_lt_t, c_lt_f, c_eq_f, c_eqm, bi_z, bi_1, bi_b, bi_T, bi_F, ite_not, up_eq, up_ne, or_self, or_true, true_or, or_false, false_or, and_true, true_and, and_self, not_true_eq_false, not_false_eq_true, Bool.false_eq_true]
theorem xF_needThing_x {x : Int32} (hx : (x < (Int32.ofNat 0)) = True ∨ (x < (Int32.ofNat 0)) = False ∧ (x ≤ (Int32.ofNat 7)) = False ∧ (x < (Int32.ofNat 8)) = False) (d : Nat) (h : am_H) : am_cl (d + 1) qF_needThing [.int x] h = some (.inr 3, am_th h) := by
  rcases hx with hx | ⟨h1, h2, h3⟩
  · simp -implicitDefEqProofs (disch := (first | omega | assumption | exact am_isS_3 | exact am_isS_25 | exact am_isX_356 | exact am_isX_359)) only [uF_needThing, ggF_needThing_0, ggF_needThing_1, ggF_needThing_2, ggF_needThing_3, hx, am_kI_x, am_kV_x, am_kI_i, am_nI_i, am_kV_i, am_nV_i, ↓reduceIte, eq_self, if_true, if_false, c_in, c_tn, pn_add, pn_mul, pn_subc, pn_addm, c_le_t, c_le_f, c_lt_t, c_lt_f, c_eq_f, c_eqm, bi_z, bi_1, bi_b, bi_T, bi_F, ite_not, up_eq, up_ne, or_self, or_true, true_or, or_false, false_or, and_true, true_and, and_self, not_true_eq_false, not_false_eq_true, Bool.false_eq_true]
  · simp -implicitDefEqProofs (disch := (first | omega | assumption | exact am_isS_3 | exact am_isS_25 | exact am_isX_356 | exact am_isX_359)) only [uF_needThing, ggF_needThing_0, ggF_needThing_1, ggF_needThing_2, ggF_needThing_3, h1, h3, am_kI_x, am_kV_x, am_kI_i, am_nI_i, am_kV_i, am_nV_i, ↓reduceIte, eq_self, if_true, if_false, c_in, c_tn, pn_add, pn_mul, pn_subc, pn_addm, c_le_t, c_le_f, c_lt_t, c_lt_f, c_eq_f, c_eqm, bi_z, bi_1, bi_b, bi_T, bi_F, ite_not, up_eq, up_ne, or_self, or_true, true_or, or_false, false_or, and_true, true_and, and_self, not_true_eq_false, not_false_eq_true, Bool.false_eq_true]
theorem xF_needAhead {t : Nat} (ht : t ≤ 100) (d : Nat) (h : am_H) : am_cl (d + 1) qF_needAhead [.int (Int32.ofNat t)] h = some (.inl none, h) := by simp -implicitDefEqProofs (disch := (first | omega | assumption | exact am_isS_3 | exact am_isS_25 | exact am_isX_356 | exact am_isX_359)) only [uF_needAhead, ggF_needAhead_0, ggF_needAhead_1, ggF_needAhead_2, ggF_needAhead_3, am_kI_x, am_kV_x, am_kI_i, am_nI_i, am_kV_i, am_nV_i, ↓reduceIte, eq_self, if_true, if_false, c_in, c_tn, pn_add, pn_mul, pn_subc, pn_addm, c_le_t, c_le_f, c_lt_t, c_lt_f, c_eq_f, c_eqm, bi_z, bi_1, bi_b, bi_T, bi_F, ite_not, up_eq, up_ne, or_self, or_true, true_or, or_false, false_or, and_true, true_and, and_self, not_true_eq_false, not_false_eq_true, Bool.false_eq_true]
theorem xF_needAhead_x {x : Int32} (hx : (x < (Int32.ofNat 0)) = True ∨ (x < (Int32.ofNat 0)) = False ∧ (x ≤ (Int32.ofNat 100)) = False ∧ (x < (Int32.ofNat 101)) = False) (d : Nat) (h : am_H) : am_cl (d + 1) qF_needAhead [.int x] h = some (.inr 1, am_th h) := by
  rcases hx with hx | ⟨h1, h2, h3⟩
  · simp -implicitDefEqProofs (disch := (first | omega | assumption | exact am_isS_3 | exact am_isS_25 | exact am_isX_356 | exact am_isX_359)) only [uF_needAhead, ggF_needAhead_0, ggF_needAhead_1, ggF_needAhead_2, ggF_needAhead_3, hx, am_kI_x, am_kV_x, am_kI_i, am_nI_i, am_kV_i, am_nV_i, ↓reduceIte, eq_self, if_true, if_false, c_in, c_tn, pn_add, pn_mul, pn_subc, pn_addm, c_le_t, c_le_f, c_lt_t, c_lt_f, c_eq_f, c_eqm, bi_z, bi_1, bi_b, bi_T, bi_F, ite_not, up_eq, up_ne, or_self, or_true, true_or, or_false, false_or, and_true, true_and, and_self, not_true_eq_false, not_false_eq_true, Bool.false_eq_true]
  · simp -implicitDefEqProofs (disch := (first | omega | assumption | exact am_isS_3 | exact am_isS_25 | exact am_isX_356 | exact am_isX_359)) only [uF_needAhead, ggF_needAhead_0, ggF_needAhead_1, ggF_needAhead_2, ggF_needAhead_3, h1, h2, am_kI_x, am_kV_x, am_kI_i, am_nI_i, am_kV_i, am_nV_i, ↓reduceIte, eq_self, if_true, if_false, c_in, c_tn, pn_add, pn_mul, pn_subc, pn_addm, c_le_t, c_le_f, c_lt_t, c_lt_f, c_eq_f, c_eqm, bi_z, bi_1, bi_b, bi_T, bi_F, ite_not, up_eq, up_ne, or_self, or_true, true_or, or_false, false_or, and_true, true_and, and_self, not_true_eq_false, not_false_eq_true, Bool.false_eq_true]
theorem xS_price {h : am_H} {W : Nat → Int32} {N G : Nat} (R : RelS h 3 W N G) {t : Nat} (ht : t < 8) (d : Nat) : am_cl (d + 3) qS_price [.ref 3, .int (Int32.ofNat t)] h = some (.inl (some (W (7 + 4 * t + 3) * (Int32.ofNat (cnt (fun c => decide (W (43 + 9 * c + 4) = (Int32.ofNat t))) N)) / (Int32.ofNat (1 + cnt (fun c => decide (W (43 + 9 * c + 5) = (Int32.ofNat t))) N)))), h) := by
  have hN := R.1
  have r11 := R.2.2.2.2.2.2.2.2.2.2.1 3 t (by omega) (by omega) (by omega)
  have cl : cnt (fun c => decide (W (43 + 9 * c + 5) = (Int32.ofNat t))) N < 100 := by have := cnt_le (p := fun c => decide (W (43 + 9 * c + 5) = (Int32.ofNat t))) N; omega
  simp -implicitDefEqProofs (disch := (first | omega | assumption | exact am_isS_3 | exact am_isS_25 | exact am_isX_356 | exact am_isX_359)) only [uS_price, ggS_price_0, ccS_price_0_2, ccS_price_0_1, fun v d => hm_rel R (k := 4) (by omega) v d, fun v d => hm_rel R (k := 5) (by omega) v d, r11, am_kI_x, am_kV_x, am_kI_i, am_nI_i, am_kV_i, am_nV_i, ↓reduceIte, eq_self, if_true, if_false, c_in, c_tn, pn_add, pn_mul, pn_subc, pn_addm, c_le_t, c_le_f, c_lt_t, c_lt_f, c_eq_f, c_eqm, bi_z, bi_1, bi_b, bi_T, bi_F, ite_not, up_eq, up_ne, or_self, or_true, true_or, or_false, false_or, and_true, true_and, and_self, not_true_eq_false, not_false_eq_true, Bool.false_eq_true]
theorem T_thing (x y : Int32) : Two qF_thing [.ref 0, .int x, .int y] qR_thing [.ref 373, .int x, .int y] (am_ctt 2) := by
  intro d hC hR J
  have J0 := J.thr (Int32.ofNat 0)
  obtain ⟨⟨N, G, R, okt, okc, okk, RL⟩, -⟩ := J
  have hN := R.1
  have r11 := R.2.2.2.2.2.2.2.2.2.2.1
  rcases rng_cases 7 (by omega) x with ⟨t, ht, rfl⟩ | ⟨b1, b2⟩
  · rcases rng_cases 4 (by omega) y with ⟨w, hw, rfl⟩ | ⟨b1, b2⟩
    · refine ⟨hC, am_up hR 373 0 (Int32.ofNat 0), J0, rfl, Or.inl ⟨if w = 4 then hR.2 374 (7 + 4 * t + 3) * (Int32.ofNat (cnt (fun c => decide (hR.2 374 (43 + 9 * c + 4) = (Int32.ofNat t))) N)) / (Int32.ofNat (1 + cnt (fun c => decide (hR.2 374 (43 + 9 * c + 5) = (Int32.ofNat t))) N)) else hR.2 374 (7 + 4 * t + w), rfl, up_eq rfl rfl, ?_, ?_⟩⟩
      · by_cases h4 : w = 4
        · subst h4
          simp -implicitDefEqProofs (disch := (first | omega | assumption | exact am_isS_3 | exact am_isS_25 | exact am_isX_356 | exact am_isX_359)) only [uF_thing, ggF_thing_0, ggF_thing_1, ggF_thing_2, ggF_thing_3, ggF_thing_4, ggF_thing_5, ggF_thing_6, ccF_thing_0_1, ccF_thing_4_1, xF_needThing, xS_price R, am_kI_x, am_kV_x, am_kI_i, am_nI_i, am_kV_i, am_nV_i, ↓reduceIte, eq_self, if_true, if_false, c_in, c_tn, pn_add, pn_mul, pn_subc, pn_addm, c_le_t, c_le_f, c_lt_t, c_lt_f, c_eq_f, c_eqm, bi_z, bi_1, bi_b, bi_T, bi_F, ite_not, up_eq, up_ne, or_self, or_true, true_or, or_false, false_or, and_true, true_and, and_self, not_true_eq_false, not_false_eq_true, Bool.false_eq_true]
        · rw [if_neg h4]
          simp -implicitDefEqProofs (disch := (first | omega | assumption | exact am_isS_3 | exact am_isS_25 | exact am_isX_356 | exact am_isX_359)) only [uF_thing, ggF_thing_0, ggF_thing_1, ggF_thing_2, ggF_thing_3, ggF_thing_4, ggF_thing_5, ggF_thing_6, ccF_thing_0_1, ccF_thing_4_1, xF_needThing, iSkt am_isS_3, iSnt am_isS_3, r11, am_kI_x, am_kV_x, am_kI_i, am_nI_i, am_kV_i, am_nV_i, ↓reduceIte, eq_self, if_true, if_false, c_in, c_tn, pn_add, pn_mul, pn_subc, pn_addm, c_le_t, c_le_f, c_lt_t, c_lt_f, c_eq_f, c_eqm, bi_z, bi_1, bi_b, bi_T, bi_F, ite_not, up_eq, up_ne, or_self, or_true, true_or, or_false, false_or, and_true, true_and, and_self, not_true_eq_false, not_false_eq_true, Bool.false_eq_true]
      · have e : (am_up hR 373 0 (Int32.ofNat 0)).2 374 0 = (Int32.ofNat N) := by rw [up_o (by omega)]; exact R.2.2.1
        have hm4 := fun (v : Int32) (d : Nat) => rR_howMany hN e d (k := 4) (by omega) v
        have hm5 := fun (v : Int32) (d : Nat) => rR_howMany hN e d (k := 5) (by omega) v
        rw [up_o (by omega)] at hm4 hm5
        have cl : cnt (fun c => decide (hR.2 374 (43 + 9 * c + 5) = (Int32.ofNat t))) N < 100 := by have := cnt_le (p := fun c => decide (hR.2 374 (43 + 9 * c + 5) = (Int32.ofNat t))) N; omega
        by_cases h4 : w = 4
        · subst h4
          simp -implicitDefEqProofs (disch := (first | omega | assumption | exact am_isS_3 | exact am_isS_25 | exact am_isX_356 | exact am_isX_359)) only [uR_thing, ggR_thing_0, ggR_thing_1, ggR_thing_2, ggR_thing_3, ggR_thing_4, ggR_thing_5, ggR_thing_6, ggR_thing_7, ggR_thing_8, ggR_thing_9, ccR_thing_0_2, ccR_thing_0_1, ccR_thing_1_1, ccR_thing_4_1, ccR_thing_7_3, ccR_thing_7_2, ccR_thing_7_1, ccR_thing_8_1, rR_noThing, rR_throwsIf_f, rR_in, rR_ofThing, hm4, hm5, k_373, up_o, am_kI_x, am_kV_x, am_kI_i, am_nI_i, am_kV_i, am_nV_i, ↓reduceIte, eq_self, if_true, if_false, c_in, c_tn, pn_add, pn_mul, pn_subc, pn_addm, c_le_t, c_le_f, c_lt_t, c_lt_f, c_eq_f, c_eqm, bi_z, bi_1, bi_b, bi_T, bi_F, ite_not, up_eq, up_ne, or_self, or_true, true_or, or_false, false_or, and_true, true_and, and_self, not_true_eq_false, not_false_eq_true, Bool.false_eq_true]
        · rw [if_neg h4]
          simp -implicitDefEqProofs (disch := (first | omega | assumption | exact am_isS_3 | exact am_isS_25 | exact am_isX_356 | exact am_isX_359)) only [uR_thing, ggR_thing_0, ggR_thing_1, ggR_thing_2, ggR_thing_3, ggR_thing_4, ggR_thing_5, ggR_thing_6, ggR_thing_7, ggR_thing_8, ggR_thing_9, ccR_thing_0_2, ccR_thing_0_1, ccR_thing_1_1, ccR_thing_4_1, ccR_thing_7_3, ccR_thing_7_2, ccR_thing_7_1, ccR_thing_8_1, rR_noThing, rR_throwsIf_f, rR_in, rR_ofThing, k_373, up_o, am_kI_x, am_kV_x, am_kI_i, am_nI_i, am_kV_i, am_nV_i, ↓reduceIte, eq_self, if_true, if_false, c_in, c_tn, pn_add, pn_mul, pn_subc, pn_addm, c_le_t, c_le_f, c_lt_t, c_lt_f, c_eq_f, c_eqm, bi_z, bi_1, bi_b, bi_T, bi_F, ite_not, up_eq, up_ne, or_self, or_true, true_or, or_false, false_or, and_true, true_and, and_self, not_true_eq_false, not_false_eq_true, Bool.false_eq_true]
    · refine ⟨am_th hC, am_up (am_up hR 373 0 (Int32.ofNat 0)) 373 0 (Int32.ofNat 2), (J0.thr (Int32.ofNat 2)).th, rfl, Or.inr ⟨4, 2, (Int32.ofNat 0), rfl, by decide, up_eq rfl rfl, ?_, ?_⟩⟩
      · rcases b2 with b2 | ⟨b2, b3, b4⟩
        · simp -implicitDefEqProofs (disch := (first | omega | assumption | exact am_isS_3 | exact am_isS_25 | exact am_isX_356 | exact am_isX_359)) only [uF_thing, ggF_thing_0, ggF_thing_1, ggF_thing_2, ggF_thing_3, ggF_thing_4, ggF_thing_5, ggF_thing_6, ccF_thing_0_1, ccF_thing_4_1, xF_needThing, b2, am_kI_x, am_kV_x, am_kI_i, am_nI_i, am_kV_i, am_nV_i, ↓reduceIte, eq_self, if_true, if_false, c_in, c_tn, pn_add, pn_mul, pn_subc, pn_addm, c_le_t, c_le_f, c_lt_t, c_lt_f, c_eq_f, c_eqm, bi_z, bi_1, bi_b, bi_T, bi_F, ite_not, up_eq, up_ne, or_self, or_true, true_or, or_false, false_or, and_true, true_and, and_self, not_true_eq_false, not_false_eq_true, Bool.false_eq_true]
        · simp -implicitDefEqProofs (disch := (first | omega | assumption | exact am_isS_3 | exact am_isS_25 | exact am_isX_356 | exact am_isX_359)) only [uF_thing, ggF_thing_0, ggF_thing_1, ggF_thing_2, ggF_thing_3, ggF_thing_4, ggF_thing_5, ggF_thing_6, ccF_thing_0_1, ccF_thing_4_1, xF_needThing, b2, b3, am_kI_x, am_kV_x, am_kI_i, am_nI_i, am_kV_i, am_nV_i, ↓reduceIte, eq_self, if_true, if_false, c_in, c_tn, pn_add, pn_mul, pn_subc, pn_addm, c_le_t, c_le_f, c_lt_t, c_lt_f, c_eq_f, c_eqm, bi_z, bi_1, bi_b, bi_T, bi_F, ite_not, up_eq, up_ne, or_self, or_true, true_or, or_false, false_or, and_true, true_and, and_self, not_true_eq_false, not_false_eq_true, Bool.false_eq_true]
      · simp -implicitDefEqProofs (disch := (first | omega | assumption | exact am_isS_3 | exact am_isS_25 | exact am_isX_356 | exact am_isX_359)) only [uR_thing, ggR_thing_0, ggR_thing_1, ggR_thing_2, ggR_thing_3, ggR_thing_4, ggR_thing_5, ggR_thing_6, ggR_thing_7, ggR_thing_8, ggR_thing_9, ccR_thing_0_2, ccR_thing_0_1, ccR_thing_1_1, ccR_thing_4_1, ccR_thing_7_3, ccR_thing_7_2, ccR_thing_7_1, ccR_thing_8_1, rR_noThing, rR_throwsIf_f, rR_throwsIf_t, rR_in, b1, k_373, am_kI_x, am_kV_x, am_kI_i, am_nI_i, am_kV_i, am_nV_i, ↓reduceIte, eq_self, if_true, if_false, c_in, c_tn, pn_add, pn_mul, pn_subc, pn_addm, c_le_t, c_le_f, c_lt_t, c_lt_f, c_eq_f, c_eqm, bi_z, bi_1, bi_b, bi_T, bi_F, ite_not, up_eq, up_ne, or_self, or_true, true_or, or_false, false_or, and_true, true_and, and_self, not_true_eq_false, not_false_eq_true, Bool.false_eq_true]
  · refine ⟨am_th hC, am_up (am_up hR 373 0 (Int32.ofNat 0)) 373 0 (Int32.ofNat 1), (J0.thr (Int32.ofNat 1)).th, rfl, Or.inr ⟨3, 1, (Int32.ofNat 0), rfl, by decide, up_eq rfl rfl, ?_, ?_⟩⟩
    · simp -implicitDefEqProofs (disch := (first | omega | assumption | exact am_isS_3 | exact am_isS_25 | exact am_isX_356 | exact am_isX_359)) only [uF_thing, ggF_thing_0, ggF_thing_1, ggF_thing_2, ggF_thing_3, ggF_thing_4, ggF_thing_5, ggF_thing_6, ccF_thing_0_1, ccF_thing_4_1, xF_needThing_x b2, am_kI_x, am_kV_x, am_kI_i, am_nI_i, am_kV_i, am_nV_i, ↓reduceIte, eq_self, if_true, if_false, c_in, c_tn, pn_add, pn_mul, pn_subc, pn_addm, c_le_t, c_le_f, c_lt_t, c_lt_f, c_eq_f, c_eqm, bi_z, bi_1, bi_b, bi_T, bi_F, ite_not, up_eq, up_ne, or_self, or_true, true_or, or_false, false_or, and_true, true_and, and_self, not_true_eq_false, not_false_eq_true, Bool.false_eq_true]
    · simp -implicitDefEqProofs (disch := (first | omega | assumption | exact am_isS_3 | exact am_isS_25 | exact am_isX_356 | exact am_isX_359)) only [uR_thing, ggR_thing_0, ggR_thing_1, ggR_thing_2, ggR_thing_3, ggR_thing_4, ggR_thing_5, ggR_thing_6, ggR_thing_7, ggR_thing_8, ggR_thing_9, ccR_thing_0_2, ccR_thing_0_1, ccR_thing_1_1, ccR_thing_4_1, ccR_thing_7_3, ccR_thing_7_2, ccR_thing_7_1, ccR_thing_8_1, rR_noThing, rR_throwsIf_t, b1, k_373, am_kI_x, am_kV_x, am_kI_i, am_nI_i, am_kV_i, am_nV_i, ↓reduceIte, eq_self, if_true, if_false, c_in, c_tn, pn_add, pn_mul, pn_subc, pn_addm, c_le_t, c_le_f, c_lt_t, c_lt_f, c_eq_f, c_eqm, bi_z, bi_1, bi_b, bi_T, bi_F, ite_not, up_eq, up_ne, or_self, or_true, true_or, or_false, false_or, and_true, true_and, and_self, not_true_eq_false, not_false_eq_true, Bool.false_eq_true]
