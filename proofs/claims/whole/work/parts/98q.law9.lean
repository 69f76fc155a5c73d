/-! a law is told: both answer alike -/
theorem RelS.row2 {h : am_H} {o : Nat} {W W' : Nat → Int32} {N G : Nat} (R : RelS h o W N G) (f : ∀ j, j < 415 → j ≠ 2 → W' j = W j) : RelS h o W' N G := by
  obtain ⟨r1, r2, r3, r4, r5, r6, r7, r8, r9, r10, r11, r12, r13⟩ := R
  refine ⟨r1, r2, by rw [f _ (by omega) (by omega)]; exact r3, r4, by rw [f _ (by omega) (by omega)]; exact r5, r6, by rw [f _ (by omega) (by omega)]; exact r7, by rw [f _ (by omega) (by omega)]; exact r8, by rw [f _ (by omega) (by omega)]; exact r9, by rw [f _ (by omega) (by omega)]; exact r10, fun k t hk ht hh => ?_, fun k c hk hc => ?_, fun k r hk hr => ?_⟩
  · rw [f _ (by omega) (by omega)]; exact r11 k t hk ht hh
  · rw [f _ (by omega) (by omega)]; exact r12 k c hk hc
  · rw [f _ (by omega) (by omega)]; exact r13 k r hk hr
theorem okT.row2 {W W' : Nat → Int32} (H : okT W) (f : ∀ j, j < 415 → j ≠ 2 → W' j = W j) : okT W' := by
  obtain ⟨o1, o2, o3, o4, o5, o6, o7⟩ := H
  refine ⟨by rw [f _ (by omega) (by omega)]; exact o1, by rw [f _ (by omega) (by omega)]; exact o2, by rw [f _ (by omega) (by omega)]; exact o3, by rw [f _ (by omega) (by omega)]; exact o4, by rw [f _ (by omega) (by omega)]; exact o5, by rw [f _ (by omega) (by omega)]; exact o6, fun t ht => ?_⟩
  rw [f _ (by omega) (by omega), f _ (by omega) (by omega), f _ (by omega) (by omega), f _ (by omega) (by omega)]
  exact o7 t ht
theorem itr_law : ∀ (k c : Nat) (s : Nat → Int32), c + k = 849 → ∀ j, itr (fun i s => pu s (415 + i) (s (1264 + i))) k c s j = if 415 + c ≤ j ∧ j < 1264 then s (j + 849) else s j := by
  intro k
  induction k with
  | zero =>
    intro c s hc j
    rw [if_neg (by omega)]
    rfl
  | succ k ih =>
    intro c s hc j
    show itr (fun i s => pu s (415 + i) (s (1264 + i))) k (c + 1) (pu s (415 + c) (s (1264 + c))) j = _
    rw [ih (c + 1) _ (by omega) j]
    by_cases h1 : 415 + (c + 1) ≤ j ∧ j < 1264
    · rw [if_pos h1, if_pos (by omega), pu_ne (by omega)]
    · rw [if_neg h1]
      by_cases h2 : j = 415 + c
      · rw [if_pos (by omega), pu_eq h2, h2, show 415 + c + 849 = 1264 + c by omega]
      · rw [if_neg (by omega), pu_ne (by omega)]
def lawW (W : Nat → Int32) : Nat → Int32 := itr (fun i s => pu s (415 + i) (s (1264 + i))) 849 0 W
theorem lawW_in {W : Nat → Int32} {j : Nat} (h1 : 415 ≤ j) (h2 : j < 1264) : lawW W j = W (j + 849) := by
  unfold lawW
  rw [itr_law 849 0 W (by omega) j, if_pos (by omega)]
theorem lawW_out {W : Nat → Int32} {j : Nat} (h1 : j < 415 ∨ 1264 ≤ j) : lawW W j = W j := by
  unfold lawW
  rw [itr_law 849 0 W (by omega) j, if_neg (by omega)]
theorem rR_law_9 (d : Nat) (h : am_H) (x1 : Int32) : am_go (am_cl d) qR_law 9 [.ref 373, .int x1, .int (Int32.ofNat 0)] [] h = some (.inl (some (x1)), am_up (am_up (cw h 374 (lawW (h.2 374))) 374 2 (Int32.ofNat 1)) 373 7 (Int32.ofNat 0)) := by
  have l := lp (Φ := am_cl d) (q := qR_law) (b := 9) (N := 849) (L := fun i _ => [.ref 373, .int x1, .int (Int32.ofNat i)]) (H := fun s => cw h 374 s) (f := fun i s => pu s (415 + i) (s (1264 + i))) (R := fun s => some (.inl (some (x1)), am_up (am_up (cw h 374 s) 374 2 (Int32.ofNat 1)) 373 7 (Int32.ofNat 0))) (fun i s hi => by
    rw [ggR_law_9]
    simp -implicitDefEqProofs (disch := (first | omega | assumption | exact am_isS_3 | exact am_isS_25 | exact am_isX_356 | exact am_isX_359)) only [ggR_law_0, ggR_law_1, ggR_law_2, ggR_law_3, ggR_law_4, ggR_law_5, ggR_law_6, ggR_law_7, ggR_law_8, ggR_law_10, ggR_law_11, ccR_law_0_1, ccR_law_6_1, cw_up, cw_eq, am_kI_x, am_kV_x, am_kI_i, am_nI_i, am_kV_i, am_nV_i, ↓reduceIte, eq_self, if_true, if_false, c_in, c_tn, pn_add, pn_mul, pn_subc, pn_addm, c_le_t, c_le_f, c_lt_t, c_lt_f, c_eq_f, c_eqm, bi_z, bi_1, bi_b, bi_T, bi_F, ite_not, up_eq, up_ne, or_self, or_true, true_or, or_false, false_or, and_true, true_and, and_self, not_true_eq_false, not_false_eq_true, Bool.false_eq_true]) (fun s => by
    rw [ggR_law_9]
    simp -implicitDefEqProofs (disch := (first | omega | assumption | exact am_isS_3 | exact am_isS_25 | exact am_isX_356 | exact am_isX_359)) only [ggR_law_0, ggR_law_1, ggR_law_2, ggR_law_3, ggR_law_4, ggR_law_5, ggR_law_6, ggR_law_7, ggR_law_8, ggR_law_10, ggR_law_11, ccR_law_0_1, ccR_law_6_1, am_kI_x, am_kV_x, am_kI_i, am_nI_i, am_kV_i, am_nV_i, ↓reduceIte, eq_self, if_true, if_false, c_in, c_tn, pn_add, pn_mul, pn_subc, pn_addm, c_le_t, c_le_f, c_lt_t, c_lt_f, c_eq_f, c_eqm, bi_z, bi_1, bi_b, bi_T, bi_F, ite_not, up_eq, up_ne, or_self, or_true, true_or, or_false, false_or, and_true, true_and, and_self, not_true_eq_false, not_false_eq_true, Bool.false_eq_true]) 849 0 (h.2 374) (by omega)
  rw [cw_self] at l
  exact l
