/-! a month goes by: both sides (mk78.py) -/
theorem okT.month {W : Nat → Int32} (H : okT W) {v : Int32} (hv : rg v 10000) : okT (pu W 3 v) := by
  obtain ⟨a, b, c, e1, e2, e3, t⟩ := H
  refine ⟨by rw [pu_eq rfl]; exact hv, by rw [pu_ne (by omega)]; exact b, by rw [pu_ne (by omega)]; exact c, by rw [pu_ne (by omega)]; exact e1, by rw [pu_ne (by omega)]; exact e2, by rw [pu_ne (by omega)]; exact e3, fun i hi => ?_⟩
  rw [pu_ne (by omega), pu_ne (by omega), pu_ne (by omega), pu_ne (by omega)]
  exact t i hi
theorem pass_l_calm {o N : Nat} (ho : am_isS o) (ho2 : o + 22 ≤ 335) (d : Nat) : ∀ (k c x G : Nat) (hC hR : am_H), c + k = N → Lk hC hR o N G → ∃ g hC' hR', g ≤ k ∧ Lk hC' hR' o N (G + g) ∧ frC o hC hC' ∧ frR hR hR' ∧ mono hR hR' N ∧ am_go (am_cl (d + 5)) qS_pass 1 [.ref o, .ref 335, .int (Int32.ofNat 0), .int (Int32.ofNat x), .int (Int32.ofNat c)] [] hC = some (.inl (some ((Int32.ofNat (x + g)))), hC') ∧ ∀ x4 x5, am_go (am_cl (d + 9)) qR_oneMonth 1 [.ref 373, .int (Int32.ofNat 1), .int (Int32.ofNat x), .int (Int32.ofNat c), x4, x5] [] hR = some (.inl (some ((Int32.ofNat (x + g)))), hR') := by
  intro k
  induction k with
  | zero =>
    intro c x G hC hR hc L
    have hc : c = N := by omega
    subst hc
    obtain ⟨R, okt, okc, okk, RL⟩ := L
    obtain ⟨m, hm, em⟩ := okt.1
    have hN := R.1
    have r3 := R.2.2.1
    have r4 := R.2.2.2.1
    have r7 := R.2.2.2.2.2.2.1
    have m2 : min (m + 1) 9999 = min 9999 (m + 1) := Nat.min_comm _ _
    refine ⟨0, am_up hC o 5 (Int32.ofNat (min 9999 (m + 1))), cw hR 374 (pu (hR.2 374) 3 (Int32.ofNat (min 9999 (m + 1)))), Nat.le_refl _, ⟨by rw [cw_eq]; exact R.month _, by rw [cw_eq]; exact okt.month ⟨_, by omega, rfl⟩, by rw [cw_eq]; exact okc.of hN (fun j h1 h2 => pu_ne (by omega)), by rw [cw_eq]; exact okk.of hN (fun j h1 h2 => pu_ne (by omega)), by rw [cw_eq]; exact RL.of (fun q h1 h2 => up_o (by omega)) (pu_ne (by omega)) (fun j h1 h2 => pu_ne (by omega))⟩, frC.up (by omega), frR_cw4, mono.eq (fun c' hc' => by rw [cw_eq, pu_ne (by omega)]), ?_, fun x4 x5 => ?_⟩
    · rw [ggS_pass_1 _ _ _ _ _ ho]
      simp -implicitDefEqProofs (disch := (first | omega | assumption | exact am_isS_3 | exact am_isS_25 | exact am_isX_356 | exact am_isX_359)) only [ggS_pass_0, ggS_pass_2, ggS_pass_3, ggS_pass_4, ggS_pass_5, ggS_pass_6, ccS_pass_3_1, ccS_pass_4_1, r4, r7, em, pn_min, m2, Nat.add_zero x, am_kI_x, am_kV_x, am_kI_i, am_nI_i, am_kV_i, am_nV_i, ↓reduceIte, eq_self, if_true, if_false, c_in, c_tn, pn_add, pn_mul, pn_subc, pn_addm, c_le_t, c_le_f, c_lt_t, c_lt_f, c_eq_f, c_eqm, bi_z, bi_1, bi_b, bi_T, bi_F, ite_not, up_eq, up_ne, or_self, or_true, true_or, or_false, false_or, and_true, true_and, and_self, not_true_eq_false, not_false_eq_true, Bool.false_eq_true]
    · rw [ggR_oneMonth_1]
      simp -implicitDefEqProofs (disch := (first | omega | assumption | exact am_isS_3 | exact am_isS_25 | exact am_isX_356 | exact am_isX_359)) only [ggR_oneMonth_0, ggR_oneMonth_2, ggR_oneMonth_3, ggR_oneMonth_4, ggR_oneMonth_5, ggR_oneMonth_6, ggR_oneMonth_7, ggR_oneMonth_8, ggR_oneMonth_9, ggR_oneMonth_10, ggR_oneMonth_11, ggR_oneMonth_12, ggR_oneMonth_13, ggR_oneMonth_14, ggR_oneMonth_15, ggR_oneMonth_16, ccR_oneMonth_1_1, ccR_oneMonth_2_1, ccR_oneMonth_4_3, ccR_oneMonth_4_2, ccR_oneMonth_4_1, ccR_oneMonth_8_1, ccR_oneMonth_12_1, ccR_oneMonth_14_4, ccR_oneMonth_14_3, ccR_oneMonth_14_2, ccR_oneMonth_14_1, rR_children, r3, em, pn_min, up_cw, Nat.add_zero x, am_kI_x, am_kV_x, am_kI_i, am_nI_i, am_kV_i, am_nV_i, ↓reduceIte, eq_self, if_true, if_false, c_in, c_tn, pn_add, pn_mul, pn_subc, pn_addm, c_le_t, c_le_f, c_lt_t, c_lt_f, c_eq_f, c_eqm, bi_z, bi_1, bi_b, bi_T, bi_F, ite_not, up_eq, up_ne, or_self, or_true, true_or, or_false, false_or, and_true, true_and, and_self, not_true_eq_false, not_false_eq_true, Bool.false_eq_true]
  | succ k ih =>
    intro c x G hC hR hc L
    obtain ⟨g, hC1, hR1, g1, L1, f1, f2, m1, e1, e2⟩ := month_calm ho ho2 L (c := c) (by omega) d
    obtain ⟨g2, hC2, hR2, g3, L2, f3, f4, m2, e3, e4⟩ := ih (c + 1) (x + g) (G + g) hC1 hR1 (by omega) L1
    refine ⟨g + g2, hC2, hR2, by omega, by rw [← Nat.add_assoc]; exact L2, f1.tr f3, f2.tr f4, m1.tr m2, ?_, fun x4 x5 => ?_⟩
    · rw [e1, e3, Nat.add_assoc]
    · obtain ⟨y4, y5, e5⟩ := e2 x x4 x5
      rw [e5, e4, Nat.add_assoc]
theorem pass_calm {hC hR : am_H} {o N G : Nat} (ho : am_isS o) (ho2 : o + 22 ≤ 335) (L : Lk hC hR o N G) (d : Nat) : ∃ g hC' hR', g ≤ 8 ∧ Lk hC' hR' o N (G + g) ∧ frC o hC hC' ∧ frR hR hR' ∧ mono hR hR' N ∧ am_cl (d + 6) qS_pass [.ref o, .ref 335, .int (Int32.ofNat 0)] hC = some (.inl (some ((Int32.ofNat g))), hC') ∧ am_cl (d + 10) qR_oneMonth [.ref 373, .int (Int32.ofNat 1)] hR = some (.inl (some ((Int32.ofNat g))), hR') := by
  have hN := L.1.1
  obtain ⟨g, hC', hR', g1, L1, f1, f2, m1, e1, e2⟩ := pass_l_calm ho ho2 d N 0 0 G hC hR (by omega) L
  refine ⟨g, hC', hR', by omega, L1, f1, f2, m1, ?_, ?_⟩
  · rw [uS_pass, ggS_pass_0 _ _ _ ho, e1, Nat.zero_add]
  · rw [uR_oneMonth, ggR_oneMonth_0, e2, Nat.zero_add]
theorem pass_l_draw {o N : Nat} (ho : am_isS o) (ho2 : o + 22 ≤ 335) (d : Nat) : ∀ (k c x G : Nat) (hC hR : am_H), c + k = N → Lk hC hR o N G → ∃ g hC' hR', g ≤ k ∧ Lk hC' hR' o N (G + g) ∧ frC o hC hC' ∧ frR hR hR' ∧ mono hR hR' N ∧ am_go (am_cl (d + 5)) qS_pass 1 [.ref o, .ref 335, .int (Int32.ofNat 1), .int (Int32.ofNat x), .int (Int32.ofNat c)] [] hC = some (.inl (some ((Int32.ofNat (x + g)))), hC') ∧ ∀ x4 x5, am_go (am_cl (d + 9)) qR_oneMonth 1 [.ref 373, .int (Int32.ofNat 0), .int (Int32.ofNat x), .int (Int32.ofNat c), x4, x5] [] hR = some (.inl (some ((Int32.ofNat (x + g)))), hR') := by
  intro k
  induction k with
  | zero =>
    intro c x G hC hR hc L
    have hc : c = N := by omega
    subst hc
    obtain ⟨R, okt, okc, okk, RL⟩ := L
    obtain ⟨m, hm, em⟩ := okt.1
    have hN := R.1
    have r3 := R.2.2.1
    have r4 := R.2.2.2.1
    have r7 := R.2.2.2.2.2.2.1
    have m2 : min (m + 1) 9999 = min 9999 (m + 1) := Nat.min_comm _ _
    refine ⟨0, am_up hC o 5 (Int32.ofNat (min 9999 (m + 1))), cw hR 374 (pu (hR.2 374) 3 (Int32.ofNat (min 9999 (m + 1)))), Nat.le_refl _, ⟨by rw [cw_eq]; exact R.month _, by rw [cw_eq]; exact okt.month ⟨_, by omega, rfl⟩, by rw [cw_eq]; exact okc.of hN (fun j h1 h2 => pu_ne (by omega)), by rw [cw_eq]; exact okk.of hN (fun j h1 h2 => pu_ne (by omega)), by rw [cw_eq]; exact RL.of (fun q h1 h2 => up_o (by omega)) (pu_ne (by omega)) (fun j h1 h2 => pu_ne (by omega))⟩, frC.up (by omega), frR_cw4, mono.eq (fun c' hc' => by rw [cw_eq, pu_ne (by omega)]), ?_, fun x4 x5 => ?_⟩
    · rw [ggS_pass_1 _ _ _ _ _ ho]
      simp -implicitDefEqProofs (disch := (first | omega | assumption | exact am_isS_3 | exact am_isS_25 | exact am_isX_356 | exact am_isX_359)) only [ggS_pass_0, ggS_pass_2, ggS_pass_3, ggS_pass_4, ggS_pass_5, ggS_pass_6, ccS_pass_3_1, ccS_pass_4_1, r4, r7, em, pn_min, m2, Nat.add_zero x, am_kI_x, am_kV_x, am_kI_i, am_nI_i, am_kV_i, am_nV_i, ↓reduceIte, eq_self, if_true, if_false, c_in, c_tn, pn_add, pn_mul, pn_subc, pn_addm, c_le_t, c_le_f, c_lt_t, c_lt_f, c_eq_f, c_eqm, bi_z, bi_1, bi_b, bi_T, bi_F, ite_not, up_eq, up_ne, or_self, or_true, true_or, or_false, false_or, and_true, true_and, and_self, not_true_eq_false, not_false_eq_true, Bool.false_eq_true]
    · rw [ggR_oneMonth_1]
      simp -implicitDefEqProofs (disch := (first | omega | assumption | exact am_isS_3 | exact am_isS_25 | exact am_isX_356 | exact am_isX_359)) only [ggR_oneMonth_0, ggR_oneMonth_2, ggR_oneMonth_3, ggR_oneMonth_4, ggR_oneMonth_5, ggR_oneMonth_6, ggR_oneMonth_7, ggR_oneMonth_8, ggR_oneMonth_9, ggR_oneMonth_10, ggR_oneMonth_11, ggR_oneMonth_12, ggR_oneMonth_13, ggR_oneMonth_14, ggR_oneMonth_15, ggR_oneMonth_16, ccR_oneMonth_1_1, ccR_oneMonth_2_1, ccR_oneMonth_4_3, ccR_oneMonth_4_2, ccR_oneMonth_4_1, ccR_oneMonth_8_1, ccR_oneMonth_12_1, ccR_oneMonth_14_4, ccR_oneMonth_14_3, ccR_oneMonth_14_2, ccR_oneMonth_14_1, rR_children, r3, em, pn_min, up_cw, Nat.add_zero x, am_kI_x, am_kV_x, am_kI_i, am_nI_i, am_kV_i, am_nV_i, ↓reduceIte, eq_self, if_true, if_false, c_in, c_tn, pn_add, pn_mul, pn_subc, pn_addm, c_le_t, c_le_f, c_lt_t, c_lt_f, c_eq_f, c_eqm, bi_z, bi_1, bi_b, bi_T, bi_F, ite_not, up_eq, up_ne, or_self, or_true, true_or, or_false, false_or, and_true, true_and, and_self, not_true_eq_false, not_false_eq_true, Bool.false_eq_true]
  | succ k ih =>
    intro c x G hC hR hc L
    obtain ⟨g, hC1, hR1, g1, L1, f1, f2, m1, e1, e2⟩ := month_draw ho ho2 L (c := c) (by omega) d
    obtain ⟨g2, hC2, hR2, g3, L2, f3, f4, m2, e3, e4⟩ := ih (c + 1) (x + g) (G + g) hC1 hR1 (by omega) L1
    refine ⟨g + g2, hC2, hR2, by omega, by rw [← Nat.add_assoc]; exact L2, f1.tr f3, f2.tr f4, m1.tr m2, ?_, fun x4 x5 => ?_⟩
    · rw [e1, e3, Nat.add_assoc]
    · obtain ⟨y4, y5, e5⟩ := e2 x x4 x5
      rw [e5, e4, Nat.add_assoc]
theorem pass_draw {hC hR : am_H} {o N G : Nat} (ho : am_isS o) (ho2 : o + 22 ≤ 335) (L : Lk hC hR o N G) (d : Nat) : ∃ g hC' hR', g ≤ 8 ∧ Lk hC' hR' o N (G + g) ∧ frC o hC hC' ∧ frR hR hR' ∧ mono hR hR' N ∧ am_cl (d + 6) qS_pass [.ref o, .ref 335, .int (Int32.ofNat 1)] hC = some (.inl (some ((Int32.ofNat g))), hC') ∧ am_cl (d + 10) qR_oneMonth [.ref 373, .int (Int32.ofNat 0)] hR = some (.inl (some ((Int32.ofNat g))), hR') := by
  have hN := L.1.1
  obtain ⟨g, hC', hR', g1, L1, f1, f2, m1, e1, e2⟩ := pass_l_draw ho ho2 d N 0 0 G hC hR (by omega) L
  refine ⟨g, hC', hR', by omega, L1, f1, f2, m1, ?_, ?_⟩
  · rw [uS_pass, ggS_pass_0 _ _ _ ho, e1, Nat.zero_add]
  · rw [uR_oneMonth, ggR_oneMonth_0, e2, Nat.zero_add]
