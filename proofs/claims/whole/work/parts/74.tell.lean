/-! the log: a row comes ahead of all -/
def sh (W : Nat → Int32) (k : Nat) : Nat → Int32 := fun j => if 115 + k < j ∧ j < 415 then W (j - 5) else W j
theorem sh_lo {W : Nat → Int32} {k j : Nat} (h : j ≤ 115 + k) : sh W k j = W j := if_neg (by omega)
theorem sh_up {W : Nat → Int32} {k j : Nat} (h : 415 ≤ j) : sh W k j = W j := if_neg (by omega)
theorem sh_in {W : Nat → Int32} {k j : Nat} (h1 : 115 + k < j) (h2 : j < 415) : sh W k j = W (j - 5) := if_pos ⟨h1, h2⟩
theorem sh_step {W : Nat → Int32} {k : Nat} (h5 : 5 ≤ k) (h : k < 300) : pu (sh W k) (115 + k) (sh W k (115 + k - 5)) = sh W (k - 1) := by
  funext j
  by_cases hj : j = 115 + k
  · rw [pu_eq hj, sh_lo (by omega), sh_in (by omega) (by omega), hj]
  · rw [pu_ne hj]
    by_cases h1 : 115 + k < j ∧ j < 415
    · rw [sh_in h1.1 h1.2, sh_in (by omega) h1.2]
    · by_cases h2 : j < 415
      · rw [sh_lo (by omega), sh_lo (by omega)]
      · rw [sh_up (by omega), sh_up (by omega)]
def tellW (W : Nat → Int32) (c G : Nat) : Nat → Int32 := pu (pu (pu (pu (pu (pu (sh W 4) 115 (W 3)) 116 (Int32.ofNat c)) 117 (W (43 + 9 * c + 1))) 118 (W (43 + 9 * c + 0))) 119 (W (43 + 9 * c + 6))) 5 (Int32.ofNat (G + 1))
theorem rR_tells_l {h : am_H} {W : Nat → Int32} {c : Nat} (d : Nat) : ∀ n, n < 296 → am_go (am_cl (d + 2)) qR_tells 1 [.ref 373, .int (Int32.ofNat c), .int (Int32.ofNat (n + 4))] [] (cw h 374 (sh W (n + 4))) = am_go (am_cl (d + 2)) qR_tells 3 [.ref 373, .int (Int32.ofNat c), .int (Int32.ofNat 4)] [] (cw h 374 (sh W 4)) := by
  intro n
  induction n with
  | zero =>
    intro _
    rw [ggR_tells_1]
    simp -implicitDefEqProofs (disch := (first | omega | assumption | exact am_isS_3 | exact am_isS_25 | exact am_isX_356 | exact am_isX_359)) only [ggR_tells_0, ggR_tells_2, ccR_tells_3_3, ccR_tells_3_2, ccR_tells_3_1, Nat.zero_add, am_kI_x, am_kV_x, am_kI_i, am_nI_i, am_kV_i, am_nV_i, ↓reduceIte, eq_self, if_true, if_false, c_in, c_tn, pn_add, pn_mul, pn_subc, pn_addm, c_le_t, c_le_f, c_lt_t, c_lt_f, c_eq_f, c_eqm, bi_z, bi_1, bi_b, bi_T, bi_F, ite_not, up_eq, up_ne, or_self, or_true, true_or, or_false, false_or, and_true, true_and, and_self, not_true_eq_false, not_false_eq_true, Bool.false_eq_true]
  | succ n ih =>
    intro hn
    have ih := ih (by omega)
    have e : n + 1 + 4 - 1 = n + 4 := by omega
    have st := sh_step (W := W) (k := n + 1 + 4) (by omega) (by omega)
    rw [e] at st
    rw [ggR_tells_1]
    simp -implicitDefEqProofs (disch := (first | omega | assumption | exact am_isS_3 | exact am_isS_25 | exact am_isX_356 | exact am_isX_359)) only [ggR_tells_0, ggR_tells_2, ccR_tells_3_3, ccR_tells_3_2, ccR_tells_3_1, cw_up, cw_eq, st, e, am_kI_x, am_kV_x, am_kI_i, am_nI_i, am_kV_i, am_nV_i, ↓reduceIte, eq_self, if_true, if_false, c_in, c_tn, pn_add, pn_mul, pn_subc, pn_addm, c_le_t, c_le_f, c_lt_t, c_lt_f, c_eq_f, c_eqm, bi_z, bi_1, bi_b, bi_T, bi_F, ite_not, up_eq, up_ne, or_self, or_true, true_or, or_false, false_or, and_true, true_and, and_self, not_true_eq_false, not_false_eq_true, Bool.false_eq_true]
    exact ih
theorem rR_tells {h : am_H} {W : Nat → Int32} {c G : Nat} (hc : c < 8) (hG : G < 50) (eG : W 5 = (Int32.ofNat G)) (d : Nat) : am_cl (d + 3) qR_tells [.ref 373, .int (Int32.ofNat c)] (cw h 374 W) = some (.inl none, cw h 374 (tellW W c G)) := by
  have e0 : sh W 299 = W := by
    funext j
    by_cases hj : j < 415
    · exact sh_lo (by omega)
    · exact sh_up (by omega)
  have l := rR_tells_l (h := h) (W := W) (c := c) d 295 (by omega)
  rw [show 295 + 4 = 299 from rfl, e0] at l
  rw [uR_tells, ggR_tells_0, l]
  have m : min 60 (G + 1) = G + 1 := by omega
  unfold tellW
  simp -implicitDefEqProofs (disch := (first | omega | assumption | exact am_isS_3 | exact am_isS_25 | exact am_isX_356 | exact am_isX_359)) only [ggR_tells_0, ggR_tells_2, ggR_tells_3, ccR_tells_3_3, ccR_tells_3_2, ccR_tells_3_1, cw_up, cw_eq, rR_of, pu_ne, sh_lo, eG, pn_min, m, am_kI_x, am_kV_x, am_kI_i, am_nI_i, am_kV_i, am_nV_i, ↓reduceIte, eq_self, if_true, if_false, c_in, c_tn, pn_add, pn_mul, pn_subc, pn_addm, c_le_t, c_le_f, c_lt_t, c_lt_f, c_eq_f, c_eqm, bi_z, bi_1, bi_b, bi_T, bi_F, ite_not, up_eq, up_ne, or_self, or_true, true_or, or_false, false_or, and_true, true_and, and_self, not_true_eq_false, not_false_eq_true, Bool.false_eq_true]
/-- both write a row of the log -/
theorem RelS.log {h : am_H} {o : Nat} {W : Nat → Int32} {N G : Nat} (R : RelS h o W N G) (hG : G < N) (c : Nat) : RelS (am_up (am_up (am_up (am_up (am_up (am_up h (o + 17 + 0) G (W 3)) (o + 17 + 1) G (Int32.ofNat c)) (o + 17 + 2) G (W (43 + 9 * c + 1))) (o + 17 + 3) G (W (43 + 9 * c + 0))) (o + 17 + 4) G (W (43 + 9 * c + 6))) o 4 (Int32.ofNat (G + 1))) o (tellW W c G) N (G + 1) := by
  obtain ⟨r1, r2, r3, r4, r5, r6, r7, r8, r9, r10, r11, r12, r13⟩ := R
  have lo : ∀ j, j < 115 → j ≠ 5 → tellW W c G j = W j := fun j h1 h2 => by
    unfold tellW
    simp (disch := omega) only [pu_ne, sh_lo]
  have up : ∀ p j, (p < o + 17 ∨ o + 22 ≤ p) → (p ≠ o ∨ j ≠ 4) → (am_up (am_up (am_up (am_up (am_up (am_up h (o + 17 + 0) G (W 3)) (o + 17 + 1) G (Int32.ofNat c)) (o + 17 + 2) G (W (43 + 9 * c + 1))) (o + 17 + 3) G (W (43 + 9 * c + 0))) (o + 17 + 4) G (W (43 + 9 * c + 6))) o 4 (Int32.ofNat (G + 1))).2 p j = h.2 p j := fun p j h1 h2 => by
    simp (disch := omega) only [up_ne]
  refine ⟨r1, by omega, ?_, ?_, ?_, ?_, ?_, ?_, ?_, ?_, ?_, ?_, ?_⟩
  · rw [lo _ (by omega) (by omega)]; exact r3
  · rw [up _ _ (by omega) (by omega)]; exact r4
  · unfold tellW; exact pu_eq rfl
  · exact up_eq rfl rfl
  · rw [up _ _ (by omega) (by omega), lo _ (by omega) (by omega)]; exact r7
  · rw [up _ _ (by omega) (by omega), lo _ (by omega) (by omega)]; exact r8
  · rw [up _ _ (by omega) (by omega), lo _ (by omega) (by omega)]; exact r9
  · rw [up _ _ (by omega) (by omega), lo _ (by omega) (by omega)]; exact r10
  · intro k t hk ht hh
    rw [up _ _ (by omega) (by omega), lo _ (by omega) (by omega)]; exact r11 k t hk ht hh
  · intro k t hk ht
    rw [up _ _ (by omega) (by omega), lo _ (by omega) (by omega)]; exact r12 k t hk ht
  · intro k r hk hr
    by_cases hq : r = G
    · subst hq
      rw [show r + 1 - 1 - r = 0 by omega]
      unfold tellW
      rcases (show k = 0 ∨ k = 1 ∨ k = 2 ∨ k = 3 ∨ k = 4 by omega) with rfl | rfl | rfl | rfl | rfl
      all_goals simp (disch := omega) only [up_eq, up_ne, pu_eq, pu_ne]
    · have e1 : (am_up (am_up (am_up (am_up (am_up (am_up h (o + 17 + 0) G (W 3)) (o + 17 + 1) G (Int32.ofNat c)) (o + 17 + 2) G (W (43 + 9 * c + 1))) (o + 17 + 3) G (W (43 + 9 * c + 0))) (o + 17 + 4) G (W (43 + 9 * c + 6))) o 4 (Int32.ofNat (G + 1))).2 (o + 17 + k) r = h.2 (o + 17 + k) r := by
        simp (disch := omega) only [up_ne]
      have e2 : tellW W c G (115 + 5 * (G + 1 - 1 - r) + k) = W (115 + 5 * (G - 1 - r) + k) := by
        unfold tellW
        have : 115 + 5 * (G + 1 - 1 - r) + k - 5 = 115 + 5 * (G - 1 - r) + k := by omega
        rw [pu_ne (by omega), pu_ne (by omega), pu_ne (by omega), pu_ne (by omega), pu_ne (by omega), pu_ne (by omega), sh_in (by omega) (by omega), this]
      rw [e1, e2]
      exact r13 k r hk (by omega)
