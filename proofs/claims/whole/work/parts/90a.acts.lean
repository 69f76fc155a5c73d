/-! acts that tell one fact of a child -/
theorem RelL_2 {h h' : am_H} {l : Nat} {W W' : Nat → Int32} (R : RelL h l W) (R' : RelL h' l W') (e : h'.2 l 6 = h.2 l 6) : W' 2 = W 2 := by
  rcases R.2 with ⟨a, b⟩ | ⟨a, L, E, K, n, T, C⟩
  · rcases R'.2 with ⟨a', b'⟩ | ⟨a', L', E', K', n', T', C'⟩
    · rw [a, a']
    · exfalso
      have := C'.1
      rw [e, b] at this
      have t1 := T'.1
      have := c_eqm (a := L') (by omega)
      rw [← this]
      exact (by assumption : (-1 : Int32) = (Int32.ofNat L')).symm
  · rcases R'.2 with ⟨a', b'⟩ | ⟨a', L', E', K', n', T', C'⟩
    · exfalso
      have := C.1
      rw [← e, b'] at this
      have t1 := T.1
      have := c_eqm (a := L) (by omega)
      rw [← this]
      exact (by assumption : (-1 : Int32) = (Int32.ofNat L)).symm
    · rw [a, a']
theorem J2.lk {hC hR hC' hR' : am_H} {N G : Nat} (J : J2 hC hR) (L : Lk hC' hR' 3 N G) (f : ∀ p, (p < 3 ∨ 25 ≤ p) → p ≠ 340 → p ≠ 341 → hC'.2 p = hC.2 p) (g : ∀ p, p ≠ 374 → p ≠ 381 → hR'.2 p = hR.2 p) : J2 hC' hR' := by
  obtain ⟨⟨N0, G0, L0⟩, a, b, c, e, k⟩ := J
  have g2 : hR'.2 374 2 = hR.2 374 2 := RelL_2 L0.2.2.2.2 L.2.2.2.2 (by rw [f 335 (by omega) (by omega) (by omega)])
  refine ⟨⟨N, G, L⟩, a.of (by rw [f 1 (by omega) (by omega) (by omega)]) (f 2 (by omega) (by omega) (by omega)) (by rw [g 373 (by omega) (by omega)]) (g 379 (by omega) (by omega)), ?_, c.of (by rw [f 0 (by omega) (by omega) (by omega)]) (fun p h1 h2 => f p (by omega) (by omega) (by omega)) (fun p h1 h2 => f p (by omega) (by omega) (by omega)) (by rw [g 373 (by omega) (by omega)]) (g 375 (by omega) (by omega)), e.of (f 69 (by omega) (by omega) (by omega)) (fun p h1 h2 => f p (by omega) (by omega) (by omega)) (by rw [g 373 (by omega) (by omega)]) (g 378 (by omega) (by omega)) g2, k.of (by rw [f 362 (by omega) (by omega) (by omega)]) (f 363 (by omega) (by omega) (by omega)) (f 343 (by omega) (by omega) (by omega))⟩
  rw [f 0 (by omega) (by omega) (by omega), g 373 (by omega) (by omega)]
  exact b
/-- one fact of a child is told, no finger, no knot, no opening -/
theorem Lk.ch {hC hR : am_H} {N G : Nat} (L : Lk hC hR 3 N G) {c k : Nat} (hc : c < 8) (hk : k < 9) (hk2 : k ≠ 2 ∧ k ≠ 7 ∧ k ≠ 8) {v : Int32} (hv : rgk k v N) : Lk (am_up hC (3 + 7 + k) c v) (am_up hR 374 (43 + 9 * c + k) v) 3 N G := by
  obtain ⟨R, okt, okc, okk, RL⟩ := L
  rw [up_cw (h := hR)]
  exact ⟨by rw [cw_eq]; exact R.ch hk hc v, by rw [cw_eq]; exact okt.ch, by rw [cw_eq]; exact okc.ch hk hv, by rw [cw_eq]; exact okk.of2 (fun c' k' h1 h2 => pu_ne (by omega)), by rw [cw_eq]; exact RL.of (fun q h1 h2 => up_o (by omega)) (pu_ne (by omega)) (fun j h1 h2 => pu_ne (by omega))⟩
theorem tell_both {hC hR : am_H} (J : J2 hC hR) {c k : Nat} (hc : c < 8) (hk : k < 9) (hk2 : k ≠ 2 ∧ k ≠ 7 ∧ k ≠ 8) {v : Int32} (hv : ∀ N, rgk k v N) (d d' : Nat) : ∃ hC' hR', J2 hC' hR' ∧ hC'.1 = hC.1 ∧ hR'.1 = hR.1 ∧ hR'.2 373 0 = hR.2 373 0 ∧ am_cl (d + 4) qF_tellFact [.ref 0, .int (Int32.ofNat k), .int (Int32.ofNat c), .int v] hC = some (.inl (some (hR.2 374 (43 + 9 * c + k))), hC') ∧ am_cl (d' + 3) qR_isNow [.ref 373, .int (Int32.ofNat c), .int (Int32.ofNat k), .int v] hR = some (.inl (some (hR.2 374 (43 + 9 * c + k))), hR') := by
  obtain ⟨hC1, hR1, J1, a1, a2, eC, eR, fC, fR, f7⟩ := remember_both J d (d' + 1)
  obtain ⟨⟨N, G, L⟩, -⟩ := id J1
  have e : hC1.2 (3 + 7 + k) c = hR.2 374 (43 + 9 * c + k) := by
    rw [L.1.2.2.2.2.2.2.2.2.2.2.2.1 k c hk hc, fR 374 (by omega) (by omega)]
  have e2 : hR1.2 374 = hR.2 374 := fR 374 (by omega) (by omega)
  refine ⟨am_up hC1 (3 + 7 + k) c v, am_up hR1 374 (43 + 9 * c + k) v, J1.lk (L.ch hc hk hk2 (hv N)) (fun p h1 h2 h3 => up_o (by omega)) (fun p h1 h2 => up_o h1), a1, a2, ?_, ?_, ?_⟩
  · rw [up_ne (by omega)]; exact f7 0 (by omega)
  · simp -implicitDefEqProofs (disch := (first | omega | assumption | exact am_isS_3 | exact am_isS_25 | exact am_isX_356 | exact am_isX_359)) only [uF_tellFact, ggF_tellFact_0, ccF_tellFact_0_1, eC, iSkc am_isS_3, iSnc am_isS_3, e, am_kI_x, am_kV_x, am_kI_i, am_nI_i, am_kV_i, am_nV_i, ↓reduceIte, eq_self, if_true, if_false, c_in, c_tn, pn_add, pn_mul, pn_subc, pn_addm, c_le_t, c_le_f, c_lt_t, c_lt_f, c_eq_f, c_eqm, bi_z, bi_1, bi_b, bi_T, bi_F, ite_not, up_eq, up_ne, or_self, or_true, true_or, or_false, false_or, and_true, true_and, and_self, not_true_eq_false, not_false_eq_true, Bool.false_eq_true]
  · simp -implicitDefEqProofs (disch := (first | omega | assumption | exact am_isS_3 | exact am_isS_25 | exact am_isX_356 | exact am_isX_359)) only [uR_isNow, ggR_isNow_0, ccR_isNow_0_3, ccR_isNow_0_2, ccR_isNow_0_1, eR, rR_of, rR_at, e2, am_kI_x, am_kV_x, am_kI_i, am_nI_i, am_kV_i, am_nV_i, ↓reduceIte, eq_self, if_true, if_false, c_in, c_tn, pn_add, pn_mul, pn_subc, pn_addm, c_le_t, c_le_f, c_lt_t, c_lt_f, c_eq_f, c_eqm, bi_z, bi_1, bi_b, bi_T, bi_F, ite_not, up_eq, up_ne, or_self, or_true, true_or, or_false, false_or, and_true, true_and, and_self, not_true_eq_false, not_false_eq_true, Bool.false_eq_true]
