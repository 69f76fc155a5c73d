/-! the reference's copies -/
def cpy (f g : Nat → Int32) (a n : Nat) : Nat → Int32 := fun j => if a ≤ j ∧ j < a + n then f (j - a) else g j
theorem cpy_in {f g : Nat → Int32} {a n j : Nat} (h : a ≤ j ∧ j < a + n) : cpy f g a n j = f (j - a) := if_pos h
theorem cpy_out {f g : Nat → Int32} {a n j : Nat} (h : j < a ∨ a + n ≤ j) : cpy f g a n j = g j := if_neg (by omega)
theorem itr_cpy (f g : Nat → Int32) (a : Nat) : ∀ n, itr (fun i s => pu s (a + i) (f i)) n 0 g = cpy f g a n := by
  intro n
  induction n with
  | zero => funext j; exact (cpy_out (by omega)).symm
  | succ n ih =>
    rw [itr_succ, ih, Nat.zero_add]
    funext j
    by_cases hj : j = a + n
    · rw [pu_eq hj, cpy_in (by omega), hj]
      congr 1
      omega
    · rw [pu_ne hj]
      by_cases hq : a ≤ j ∧ j < a + n
      · rw [cpy_in hq, cpy_in (by omega)]
      · rw [cpy_out (by omega), cpy_out (by omega)]
theorem itr_cpy0 (f g : Nat → Int32) (n : Nat) : itr (fun i s => pu s i (f i)) n 0 g = cpy f g 0 n := by
  have := itr_cpy f g 0 n
  simp only [Nat.zero_add] at this
  exact this
theorem rR_keepsAll (d : Nat) (h : am_H) : am_cl (d + 1) qR_keepsAll [.ref 373] h = some (.inl none, cw h 377 (cpy (h.2 374) (h.2 377) 0 415)) := by
  rw [← itr_cpy0]
  have := lp (Φ := am_cl d) (q := qR_keepsAll) (b := 1) (N := 415) (L := fun i _ => [.ref 373, .int (Int32.ofNat i)]) (H := fun s => cw h 377 s) (f := fun i s => pu s i (h.2 374 i)) (R := fun s => some (.inl none, cw h 377 s)) (fun i s hi => by
    rw [ggR_keepsAll_1]
    simp -implicitDefEqProofs (disch := (first | omega | assumption | exact am_isS_3 | exact am_isS_25 | exact am_isX_356 | exact am_isX_359)) only [ggR_keepsAll_0, ggR_keepsAll_2, ggR_keepsAll_3, cw_up, cw_ne, am_kI_x, am_kV_x, am_kI_i, am_nI_i, am_kV_i, am_nV_i, ↓reduceIte, eq_self, if_true, if_false, c_in, c_tn, pn_add, pn_mul, pn_subc, pn_addm, c_le_t, c_le_f, c_lt_t, c_lt_f, c_eq_f, c_eqm, bi_z, bi_1, bi_b, bi_T, bi_F, ite_not, up_eq, up_ne, or_self, or_true, true_or, or_false, false_or, and_true, true_and, and_self, not_true_eq_false, not_false_eq_true, Bool.false_eq_true]) (fun s => by
    rw [ggR_keepsAll_1]
    simp -implicitDefEqProofs (disch := (first | omega | assumption | exact am_isS_3 | exact am_isS_25 | exact am_isX_356 | exact am_isX_359)) only [ggR_keepsAll_0, ggR_keepsAll_2, ggR_keepsAll_3, am_kI_x, am_kV_x, am_kI_i, am_nI_i, am_kV_i, am_nV_i, ↓reduceIte, eq_self, if_true, if_false, c_in, c_tn, pn_add, pn_mul, pn_subc, pn_addm, c_le_t, c_le_f, c_lt_t, c_lt_f, c_eq_f, c_eqm, bi_z, bi_1, bi_b, bi_T, bi_F, ite_not, up_eq, up_ne, or_self, or_true, true_or, or_false, false_or, and_true, true_and, and_self, not_true_eq_false, not_false_eq_true, Bool.false_eq_true]) 415 0 (h.2 377) (by omega)
  rw [cw_self] at this
  rw [uR_keepsAll, ggR_keepsAll_0]
  exact this
theorem rR_bringsBack (d : Nat) (h : am_H) : am_cl (d + 1) qR_bringsBack [.ref 373] h = some (.inl none, cw h 374 (cpy (h.2 377) (h.2 374) 0 415)) := by
  rw [← itr_cpy0]
  have := lp (Φ := am_cl d) (q := qR_bringsBack) (b := 1) (N := 415) (L := fun i _ => [.ref 373, .int (Int32.ofNat i)]) (H := fun s => cw h 374 s) (f := fun i s => pu s i (h.2 377 i)) (R := fun s => some (.inl none, cw h 374 s)) (fun i s hi => by
    rw [ggR_bringsBack_1]
    simp -implicitDefEqProofs (disch := (first | omega | assumption | exact am_isS_3 | exact am_isS_25 | exact am_isX_356 | exact am_isX_359)) only [ggR_bringsBack_0, ggR_bringsBack_2, ggR_bringsBack_3, cw_up, cw_ne, am_kI_x, am_kV_x, am_kI_i, am_nI_i, am_kV_i, am_nV_i, ↓reduceIte, eq_self, if_true, if_false, c_in, c_tn, pn_add, pn_mul, pn_subc, pn_addm, c_le_t, c_le_f, c_lt_t, c_lt_f, c_eq_f, c_eqm, bi_z, bi_1, bi_b, bi_T, bi_F, ite_not, up_eq, up_ne, or_self, or_true, true_or, or_false, false_or, and_true, true_and, and_self, not_true_eq_false, not_false_eq_true, Bool.false_eq_true]) (fun s => by
    rw [ggR_bringsBack_1]
    simp -implicitDefEqProofs (disch := (first | omega | assumption | exact am_isS_3 | exact am_isS_25 | exact am_isX_356 | exact am_isX_359)) only [ggR_bringsBack_0, ggR_bringsBack_2, ggR_bringsBack_3, am_kI_x, am_kV_x, am_kI_i, am_nI_i, am_kV_i, am_nV_i, ↓reduceIte, eq_self, if_true, if_false, c_in, c_tn, pn_add, pn_mul, pn_subc, pn_addm, c_le_t, c_le_f, c_lt_t, c_lt_f, c_eq_f, c_eqm, bi_z, bi_1, bi_b, bi_T, bi_F, ite_not, up_eq, up_ne, or_self, or_true, true_or, or_false, false_or, and_true, true_and, and_self, not_true_eq_false, not_false_eq_true, Bool.false_eq_true]) 415 0 (h.2 374) (by omega)
  rw [cw_self] at this
  rw [uR_bringsBack, ggR_bringsBack_0]
  exact this
/-- ahead of an act: m < 12 are remembered -/
theorem rR_rem_l {h : am_H} {m : Nat} (hm : m < 12) (em : h.2 373 7 = (Int32.ofNat (m + 1))) (d : Nat) : am_go (am_cl d) qR_remembers 7 [.ref 373, .int (Int32.ofNat 0)] [] h = some (.inl none, cw h 378 (cpy (h.2 374) (h.2 378) (415 * m) 415)) := by
  rw [← itr_cpy]
  have e1 : m + 1 - 1 = m := by omega
  have := lp (Φ := am_cl d) (q := qR_remembers) (b := 7) (N := 415) (L := fun i _ => [.ref 373, .int (Int32.ofNat i)]) (H := fun s => cw h 378 s) (f := fun i s => pu s (415 * m + i) (h.2 374 i)) (R := fun s => some (.inl none, cw h 378 s)) (fun i s hi => by
    rw [ggR_remembers_7]
    simp -implicitDefEqProofs (disch := (first | omega | assumption | exact am_isS_3 | exact am_isS_25 | exact am_isX_356 | exact am_isX_359)) only [ggR_remembers_0, ggR_remembers_1, ggR_remembers_3, ggR_remembers_4, ggR_remembers_5, ggR_remembers_6, ggR_remembers_8, ggR_remembers_9, cw_up, cw_ne, em, e1, am_kI_x, am_kV_x, am_kI_i, am_nI_i, am_kV_i, am_nV_i, ↓reduceIte, eq_self, if_true, if_false, c_in, c_tn, pn_add, pn_mul, pn_subc, pn_addm, c_le_t, c_le_f, c_lt_t, c_lt_f, c_eq_f, c_eqm, bi_z, bi_1, bi_b, bi_T, bi_F, ite_not, up_eq, up_ne, or_self, or_true, true_or, or_false, false_or, and_true, true_and, and_self, not_true_eq_false, not_false_eq_true, Bool.false_eq_true]) (fun s => by
    rw [ggR_remembers_7]
    simp -implicitDefEqProofs (disch := (first | omega | assumption | exact am_isS_3 | exact am_isS_25 | exact am_isX_356 | exact am_isX_359)) only [ggR_remembers_0, ggR_remembers_1, ggR_remembers_3, ggR_remembers_4, ggR_remembers_5, ggR_remembers_6, ggR_remembers_8, ggR_remembers_9, am_kI_x, am_kV_x, am_kI_i, am_nI_i, am_kV_i, am_nV_i, ↓reduceIte, eq_self, if_true, if_false, c_in, c_tn, pn_add, pn_mul, pn_subc, pn_addm, c_le_t, c_le_f, c_lt_t, c_lt_f, c_eq_f, c_eqm, bi_z, bi_1, bi_b, bi_T, bi_F, ite_not, up_eq, up_ne, or_self, or_true, true_or, or_false, false_or, and_true, true_and, and_self, not_true_eq_false, not_false_eq_true, Bool.false_eq_true]) 415 0 (h.2 378) (by omega)
  rw [cw_self] at this
  exact this
theorem rR_remembers {h : am_H} {m : Nat} (hm : m < 12) (em : h.2 373 7 = (Int32.ofNat m)) (d : Nat) : am_cl (d + 1) qR_remembers [.ref 373] h = some (.inl none, cw (am_up h 373 7 (Int32.ofNat (m + 1))) 378 (cpy (h.2 374) (h.2 378) (415 * m) 415)) := by
  have l := rR_rem_l (h := am_up h 373 7 (Int32.ofNat (m + 1))) hm (up_eq rfl rfl) d
  rw [up_o (by omega), up_o (by omega)] at l
  simp -implicitDefEqProofs (disch := (first | omega | assumption | exact am_isS_3 | exact am_isS_25 | exact am_isX_356 | exact am_isX_359)) only [uR_remembers, ggR_remembers_0, ggR_remembers_1, ggR_remembers_3, ggR_remembers_4, ggR_remembers_5, ggR_remembers_6, ggR_remembers_8, ggR_remembers_9, em, am_kI_x, am_kV_x, am_kI_i, am_nI_i, am_kV_i, am_nV_i, ↓reduceIte, eq_self, if_true, if_false, c_in, c_tn, pn_add, pn_mul, pn_subc, pn_addm, c_le_t, c_le_f, c_lt_t, c_lt_f, c_eq_f, c_eqm, bi_z, bi_1, bi_b, bi_T, bi_F, ite_not, up_eq, up_ne, or_self, or_true, true_or, or_false, false_or, and_true, true_and, and_self, not_true_eq_false, not_false_eq_true, Bool.false_eq_true]
  exact l
/-- twelve are: the eldest goes -/
theorem rR_sh_l {h : am_H} (d : Nat) : am_go (am_cl d) qR_remembers 2 [.ref 373, .int (Int32.ofNat 0)] [] h = am_go (am_cl d) qR_remembers 4 [.ref 373, .int (Int32.ofNat 4565)] [] (cw h 378 (fun j => if j < 4565 then h.2 378 (j + 415) else h.2 378 j)) := by
  have gen : ∀ n, itr (fun i s => pu s i (s (i + 415))) n 0 (h.2 378) = fun j => if j < n then h.2 378 (j + 415) else h.2 378 j := by
    intro n
    induction n with
    | zero => funext j; exact (if_neg (by omega)).symm
    | succ n ih =>
      rw [itr_succ, ih, Nat.zero_add]
      funext j
      by_cases hj : j = n
      · subst hj
        rw [pu_eq rfl]
        show (if j + 415 < j then h.2 378 (j + 415 + 415) else h.2 378 (j + 415)) = if j < j + 1 then h.2 378 (j + 415) else h.2 378 j
        rw [if_neg (by omega), if_pos (by omega)]
      · rw [pu_ne hj]
        by_cases hq : j < n
        · rw [if_pos hq, if_pos (by omega)]
        · rw [if_neg hq, if_neg (by omega)]
  have := lp (Φ := am_cl d) (q := qR_remembers) (b := 2) (N := 4565) (L := fun i _ => [.ref 373, .int (Int32.ofNat i)]) (H := fun s => cw h 378 s) (f := fun i s => pu s i (s (i + 415))) (R := fun s => am_go (am_cl d) qR_remembers 4 [.ref 373, .int (Int32.ofNat 4565)] [] (cw h 378 s)) (fun i s hi => by
    rw [ggR_remembers_2]
    simp -implicitDefEqProofs (disch := (first | omega | assumption | exact am_isS_3 | exact am_isS_25 | exact am_isX_356 | exact am_isX_359)) only [ggR_remembers_0, ggR_remembers_1, ggR_remembers_3, ggR_remembers_5, ggR_remembers_6, ggR_remembers_8, ggR_remembers_9, cw_up, cw_eq, am_kI_x, am_kV_x, am_kI_i, am_nI_i, am_kV_i, am_nV_i, ↓reduceIte, eq_self, if_true, if_false, c_in, c_tn, pn_add, pn_mul, pn_subc, pn_addm, c_le_t, c_le_f, c_lt_t, c_lt_f, c_eq_f, c_eqm, bi_z, bi_1, bi_b, bi_T, bi_F, ite_not, up_eq, up_ne, or_self, or_true, true_or, or_false, false_or, and_true, true_and, and_self, not_true_eq_false, not_false_eq_true, Bool.false_eq_true]) (fun s => by
    rw [ggR_remembers_2]
    simp -implicitDefEqProofs (disch := (first | omega | assumption | exact am_isS_3 | exact am_isS_25 | exact am_isX_356 | exact am_isX_359)) only [ggR_remembers_0, ggR_remembers_1, ggR_remembers_3, ggR_remembers_5, ggR_remembers_6, ggR_remembers_8, ggR_remembers_9, am_kI_x, am_kV_x, am_kI_i, am_nI_i, am_kV_i, am_nV_i, ↓reduceIte, eq_self, if_true, if_false, c_in, c_tn, pn_add, pn_mul, pn_subc, pn_addm, c_le_t, c_le_f, c_lt_t, c_lt_f, c_eq_f, c_eqm, bi_z, bi_1, bi_b, bi_T, bi_F, ite_not, up_eq, up_ne, or_self, or_true, true_or, or_false, false_or, and_true, true_and, and_self, not_true_eq_false, not_false_eq_true, Bool.false_eq_true]) 4565 0 (h.2 378) (by omega)
  rw [cw_self, gen] at this
  exact this
theorem rR_remembers12 {h : am_H} (em : h.2 373 7 = (Int32.ofNat 12)) (d : Nat) : am_cl (d + 1) qR_remembers [.ref 373] h = some (.inl none, cw h 378 (cpy (h.2 374) (fun j => if j < 4565 then h.2 378 (j + 415) else h.2 378 j) (415 * 11) 415)) := by
  have l := rR_rem_l (h := cw h 378 (fun j => if j < 4565 then h.2 378 (j + 415) else h.2 378 j)) (m := 11) (by omega) (by rw [cw_ne (by omega)]; exact em) d
  rw [cw_cw, cw_ne (by omega), cw_eq] at l
  rw [uR_remembers, ggR_remembers_0, em, if_pos rfl, ggR_remembers_1, rR_sh_l, ggR_remembers_4, ggR_remembers_6]
  exact l
