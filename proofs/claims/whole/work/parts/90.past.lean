/-! acts are remembered: both sides -/
theorem isS_past {i : Nat} (hi : i < 12) : am_isS (70 + 1 + 22 * i) := by
  apply am_stL_ok
  unfold am_stL
  apply List.mem_append_right
  rw [List.mem_map]
  exact ⟨i, List.mem_range.mpr hi, by omega⟩
theorem remember_both {hC hR : am_H} (J : J2 hC hR) (d d' : Nat) : ∃ hC' hR', J2 hC' hR' ∧ hC'.1 = hC.1 ∧ hR'.1 = hR.1 ∧ am_cl (d + 3) qP_remember [.ref 69, .ref 3] hC = some (.inl none, hC') ∧ am_cl (d' + 1) qR_remembers [.ref 373] hR = some (.inl none, hR') ∧ (∀ p, p < 69 ∨ 335 ≤ p → hC'.2 p = hC.2 p) ∧ (∀ p, p ≠ 378 → p ≠ 373 → hR'.2 p = hR.2 p) ∧ (∀ i, i ≠ 7 → hR'.2 373 i = hR.2 373 i) := by
  obtain ⟨⟨N, G, L⟩, jt, jf, ji, ⟨m, s, hm, hs, p1, p2, p3, pp⟩, jk⟩ := J
  obtain ⟨R, okt, okc, okk, RL⟩ := id L
  by_cases h12 : m = 12
  · subst h12
    have e0 : (s + 12) % 12 = s := by omega
    obtain ⟨h1, a1, a2, a3, a4⟩ := copy_rel (o := 70 + 1 + 22 * s) (o' := 3) (isS_past hs) am_isS_3 (by omega) d hC
    have k7 := (isS_past hs).1
    have eR := rR_remembers12 p3 d'
    have e69 : h1.2 69 = hC.2 69 := a3 69 (by omega)
    refine ⟨am_up h1 69 1 (Int32.ofNat ((s + 1) % 12)), _, ?_, a2, ?_, ?_, eR, ?_, ?_, ?_⟩
    · refine ⟨⟨N, G, L.of (fun p q1 q2 => by rw [up_o (by omega), a3 p (by omega)]) (fun p q1 q2 => by rw [up_o (by omega), a3 p (by omega)]) (fun j _ => by rw [cw_ne (by omega)])⟩, jt.of (by rw [up_o (by omega), a3 1 (by omega)]) (by rw [up_o (by omega), a3 2 (by omega)]) (by rw [cw_ne (by omega)]) (cw_ne (by omega)), ?_, ji.of (by rw [up_o (by omega), a3 0 (by omega)]) (fun p q1 q2 => by rw [up_o (by omega), a3 p (by omega)]) (fun p q1 q2 => by rw [up_o (by omega), a3 p (by omega)]) (by rw [cw_ne (by omega)]) (cw_ne (by omega)), ⟨12, (s + 1) % 12, Nat.le_refl _, Nat.mod_lt _ (by omega), ?_, up_eq rfl rfl, ?_, fun i hi => ?_⟩, jk.of (by rw [up_o (by omega), a3 362 (by omega)]) (by rw [up_o (by omega), a3 363 (by omega)]) (by rw [up_o (by omega), a3 343 (by omega)])⟩
      · rw [up_o (by omega), a3 0 (by omega), cw_ne (by omega)]; exact jf
      · rw [up_ne (by omega), e69]; exact p1
      · rw [cw_ne (by omega)]; exact p3
      · rw [cw_eq, cw_ne (by omega)]
        by_cases h11 : i = 11
        · subst h11
          have e1 : ((s + 1) % 12 + 11) % 12 = s := by omega
          rw [e1, cpy_in (by omega), show 415 * 11 + 2 - 415 * 11 = 2 by omega]
          refine ⟨?_, rfl⟩
          have q : stOK h1 (70 + 1 + 22 * s) (hR.2 374) := ⟨N, G, a4 _ _ _ R, okt, okc, okk⟩
          exact q.of (fun p q1 q2 => up_o (by omega)) (fun j hj => by rw [cpy_in (by omega), show 415 * 11 + j - 415 * 11 = j by omega])
        · have e1 : ((s + 1) % 12 + i) % 12 = (s + (i + 1)) % 12 := by omega
          rw [e1, cpy_out (by omega)]
          obtain ⟨q1, q2⟩ := pp (i + 1) (by omega)
          have hml : (s + (i + 1)) % 12 < 12 := Nat.mod_lt _ (by omega)
          have hmn : (s + (i + 1)) % 12 ≠ s := by omega
          refine ⟨q1.of (fun p z1 z2 => ?_) (fun j hj => ?_), ?_⟩
          · rw [up_o (by omega)]
            exact a3 p (by omega)
          · rw [cpy_out (by omega), if_pos (by omega), show 415 * i + j + 415 = 415 * (i + 1) + j by omega]
          · rw [if_pos (by omega), show 415 * i + 2 + 415 = 415 * (i + 1) + 2 by omega]
            exact q2
    · rfl
    · simp -implicitDefEqProofs (disch := (first | omega | assumption | exact am_isS_3 | exact am_isS_25 | exact am_isX_356 | exact am_isX_359)) only [uP_remember, ggP_remember_0, ggP_remember_1, ggP_remember_2, ggP_remember_3, ccP_remember_0_1, p1, p2, pn_mod, e0, k7, a1, e69, am_kI_x, am_kV_x, am_kI_i, am_nI_i, am_kV_i, am_nV_i, ↓reduceIte, eq_self, if_true, if_false, c_in, c_tn, pn_add, pn_mul, pn_subc, pn_addm, c_le_t, c_le_f, c_lt_t, c_lt_f, c_eq_f, c_eqm, bi_z, bi_1, bi_b, bi_T, bi_F, ite_not, up_eq, up_ne, or_self, or_true, true_or, or_false, false_or, and_true, true_and, and_self, not_true_eq_false, not_false_eq_true, Bool.false_eq_true]
    · intro p hp
      rw [up_o (by omega)]
      exact a3 p (by omega)
    · intro p q1 q2
      exact cw_ne q1
    · intro i hi
      rw [cw_ne (by omega)]
  · have hml : (s + m) % 12 < 12 := Nat.mod_lt _ (by omega)
    obtain ⟨h1, a1, a2, a3, a4⟩ := copy_rel (o := 70 + 1 + 22 * ((s + m) % 12)) (o' := 3) (isS_past hml) am_isS_3 (by omega) d hC
    have k7 := (isS_past hml).1
    have eR := rR_remembers (m := m) (by omega) p3 d'
    have e69 : h1.2 69 = hC.2 69 := a3 69 (by omega)
    refine ⟨am_up h1 69 2 (Int32.ofNat (m + 1)), _, ?_, a2, ?_, ?_, eR, ?_, ?_, ?_⟩
    · refine ⟨⟨N, G, L.of (fun p q1 q2 => by rw [up_o (by omega), a3 p (by omega)]) (fun p q1 q2 => by rw [up_o (by omega), a3 p (by omega)]) (fun j _ => by rw [cw_ne (by omega), up_o (by omega)])⟩, jt.of (by rw [up_o (by omega), a3 1 (by omega)]) (by rw [up_o (by omega), a3 2 (by omega)]) (by rw [cw_ne (by omega), up_ne (by omega)]) (by rw [cw_ne (by omega), up_o (by omega)]), ?_, ji.of (by rw [up_o (by omega), a3 0 (by omega)]) (fun p q1 q2 => by rw [up_o (by omega), a3 p (by omega)]) (fun p q1 q2 => by rw [up_o (by omega), a3 p (by omega)]) (by rw [cw_ne (by omega), up_ne (by omega)]) (by rw [cw_ne (by omega), up_o (by omega)]), ⟨m + 1, s, by omega, hs, up_eq rfl rfl, ?_, ?_, fun i hi => ?_⟩, jk.of (by rw [up_o (by omega), a3 362 (by omega)]) (by rw [up_o (by omega), a3 363 (by omega)]) (by rw [up_o (by omega), a3 343 (by omega)])⟩
      · rw [up_o (by omega), a3 0 (by omega), cw_ne (by omega), up_ne (by omega)]; exact jf
      · rw [up_ne (by omega), e69]; exact p2
      · rw [cw_ne (by omega)]; exact up_eq rfl rfl
      · rw [cw_eq, cw_ne (by omega), up_o (by omega)]
        by_cases hi2 : i = m
        · subst hi2
          rw [cpy_in (by omega), show 415 * i + 2 - 415 * i = 2 by omega]
          refine ⟨?_, rfl⟩
          have q : stOK h1 (70 + 1 + 22 * ((s + i) % 12)) (hR.2 374) := ⟨N, G, a4 _ _ _ R, okt, okc, okk⟩
          exact q.of (fun p q1 q2 => up_o (by omega)) (fun j hj => by rw [cpy_in (by omega), show 415 * i + j - 415 * i = j by omega])
        · rw [cpy_out (by omega)]
          obtain ⟨q1, q2⟩ := pp i (by omega)
          have hml2 : (s + i) % 12 < 12 := Nat.mod_lt _ (by omega)
          have hmn : (s + i) % 12 ≠ (s + m) % 12 := by omega
          refine ⟨q1.of (fun p z1 z2 => ?_) (fun j hj => ?_), q2⟩
          · rw [up_o (by omega)]
            exact a3 p (by omega)
          · rw [cpy_out (by omega)]
    · rfl
    · simp -implicitDefEqProofs (disch := (first | omega | assumption | exact am_isS_3 | exact am_isS_25 | exact am_isX_356 | exact am_isX_359)) only [uP_remember, ggP_remember_0, ggP_remember_1, ggP_remember_2, ggP_remember_3, ccP_remember_0_1, p1, p2, pn_mod, k7, a1, e69, am_kI_x, am_kV_x, am_kI_i, am_nI_i, am_kV_i, am_nV_i, ↓reduceIte, eq_self, if_true, if_false, c_in, c_tn, pn_add, pn_mul, pn_subc, pn_addm, c_le_t, c_le_f, c_lt_t, c_lt_f, c_eq_f, c_eqm, bi_z, bi_1, bi_b, bi_T, bi_F, ite_not, up_eq, up_ne, or_self, or_true, true_or, or_false, false_or, and_true, true_and, and_self, not_true_eq_false, not_false_eq_true, Bool.false_eq_true]
    · intro p hp
      rw [up_o (by omega)]
      exact a3 p (by omega)
    · intro p q1 q2
      rw [cw_ne q1, up_o q2]
    · intro i hi
      rw [cw_ne (by omega), up_ne (by omega)]
