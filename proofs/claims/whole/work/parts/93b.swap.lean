/-! swap, rests -/
theorem k_998 : am_kd 373 = 10 := rfl
/-- how much a child likes what one keeps, on both sides -/
def lkN (W : Nat → Int32) (v : Nat → Nat) (c o k : Nat) : Nat := if W (43 + 9 * o + 5) = W (43 + 9 * c + 4) then 100 else v k
def gdN (W : Nat → Int32) (v : Nat → Nat) (c o k : Nat) : Nat := if W (43 + 9 * o + 5) = W (43 + 9 * c + 4) then 999 else v k
theorem lk_gd {W : Nat → Int32} {v : Nat → Nat} {c o k o' k' : Nat} (h1 : v k ≤ 99) (h2 : v k' ≤ 99) : lkN W v c o k ≤ lkN W v c o' k' ↔ gdN W v c o k ≤ gdN W v c o' k' := by
  unfold lkN gdN
  split <;> split <;> omega
theorem lk_le {W : Nat → Int32} {v : Nat → Nat} {c o k : Nat} (h1 : v k ≤ 99) : lkN W v c o k ≤ 100 := by
  unfold lkN
  split <;> omega
theorem gd_le {W : Nat → Int32} {v : Nat → Nat} {c o k : Nat} (h1 : v k ≤ 99) : gdN W v c o k ≤ 999 := by
  unfold gdN
  split <;> omega
theorem xM_likes {h : am_H} {W : Nat → Int32} {N G : Nat} (R : RelS h 3 W N G) {v : Nat → Nat} (hv : ∀ t, t < 9 → v t ≤ 99 ∧ W (7 + 4 * t + 3) = (Int32.ofNat (v t))) {c o k : Nat} (hc : c < 8) (ho : o < 8) (hk : k < 8) (ek : W (43 + 9 * o + 5) = (Int32.ofNat k)) (d : Nat) : am_cl (d + 2) qM_likes [.ref 3, .int (Int32.ofNat c), .int (Int32.ofNat o)] h = some (.inl (some ((Int32.ofNat (lkN W v c o k)))), h) := by
  have r11 := R.2.2.2.2.2.2.2.2.2.2.1
  have r12 := R.2.2.2.2.2.2.2.2.2.2.2.1
  have e5 : h.2 (3 + 7 + 5) o = (Int32.ofNat k) := by rw [r12 5 o (by omega) ho]; exact ek
  have e4 := r12 4 c (by omega) hc
  have ev := (hv k (by omega)).2
  have hne : ¬ ((Int32.ofNat k) : Int32) = -1 := by rw [c_eqm (by omega)]; exact fun z => z
  have ew : ∀ d, am_cl (d + 1) qS_worthKept [.ref 3, .int (Int32.ofNat o)] h = some (.inl (some ((Int32.ofNat (v k)))), h) := fun d => by
    rw [sS_worthKept am_isS_3 ho d (Or.inr ⟨k, by omega, e5⟩), e5, if_neg hne, c_tn (by omega), r11 3 k (by omega) (by omega) (by omega), ev]
  unfold lkN
  by_cases hq : W (43 + 9 * o + 5) = W (43 + 9 * c + 4)
  · rw [if_pos hq]
    rw [ek] at hq
    simp -implicitDefEqProofs (disch := (first | omega | assumption | exact am_isS_3 | exact am_isS_25 | exact am_isX_356 | exact am_isX_359)) only [uM_likes, ggM_likes_0, ggM_likes_1, ggM_likes_2, ggM_likes_3, ggM_likes_4, ccM_likes_3_1, e5, e4, ← hq, am_kI_x, am_kV_x, am_kI_i, am_nI_i, am_kV_i, am_nV_i, ↓reduceIte, eq_self, if_true, if_false, c_in, c_tn, pn_add, pn_mul, pn_subc, pn_addm, c_le_t, c_le_f, c_lt_t, c_lt_f, c_eq_f, c_eqm, bi_z, bi_1, bi_b, bi_T, bi_F, ite_not, up_eq, up_ne, or_self, or_true, true_or, or_false, false_or, and_true, true_and, and_self, not_true_eq_false, not_false_eq_true, Bool.false_eq_true]
  · rw [if_neg hq]
    rw [ek] at hq
    simp -implicitDefEqProofs (disch := (first | omega | assumption | exact am_isS_3 | exact am_isS_25 | exact am_isX_356 | exact am_isX_359)) only [uM_likes, ggM_likes_0, ggM_likes_1, ggM_likes_2, ggM_likes_3, ggM_likes_4, ccM_likes_3_1, e5, e4, hq, ew, am_kI_x, am_kV_x, am_kI_i, am_nI_i, am_kV_i, am_nV_i, ↓reduceIte, eq_self, if_true, if_false, c_in, c_tn, pn_add, pn_mul, pn_subc, pn_addm, c_le_t, c_le_f, c_lt_t, c_lt_f, c_eq_f, c_eqm, bi_z, bi_1, bi_b, bi_T, bi_F, ite_not, up_eq, up_ne, or_self, or_true, true_or, or_false, false_or, and_true, true_and, and_self, not_true_eq_false, not_false_eq_true, Bool.false_eq_true]
theorem xM_isBetter0 {h : am_H} {W : Nat → Int32} {N G : Nat} (R : RelS h 3 W N G) {c : Nat} (o : Nat) (hc : c < 8) (ek : W (43 + 9 * c + 5) = -1) (d : Nat) : am_cl (d + 3) qM_isBetter [.ref 3, .int (Int32.ofNat c), .int (Int32.ofNat o)] h = some (.inl (some ((Int32.ofNat 0))), h) := by
  have r12 := R.2.2.2.2.2.2.2.2.2.2.2.1
  have e5 : h.2 (3 + 7 + 5) c = -1 := by rw [r12 5 c (by omega) hc]; exact ek
  simp -implicitDefEqProofs (disch := (first | omega | assumption | exact am_isS_3 | exact am_isS_25 | exact am_isX_356 | exact am_isX_359)) only [uM_isBetter, ggM_isBetter_0, ggM_isBetter_1, ggM_isBetter_2, ggM_isBetter_3, ggM_isBetter_4, ccM_isBetter_1_2, ccM_isBetter_1_1, e5, am_kI_x, am_kV_x, am_kI_i, am_nI_i, am_kV_i, am_nV_i, ↓reduceIte, eq_self, if_true, if_false, c_in, c_tn, pn_add, pn_mul, pn_subc, pn_addm, c_le_t, c_le_f, c_lt_t, c_lt_f, c_eq_f, c_eqm, bi_z, bi_1, bi_b, bi_T, bi_F, ite_not, up_eq, up_ne, or_self, or_true, true_or, or_false, false_or, and_true, true_and, and_self, not_true_eq_false, not_false_eq_true, Bool.false_eq_true]
theorem xM_isBetter {h : am_H} {W : Nat → Int32} {N G : Nat} (R : RelS h 3 W N G) {v : Nat → Nat} (hv : ∀ t, t < 9 → v t ≤ 99 ∧ W (7 + 4 * t + 3) = (Int32.ofNat (v t))) {c o k l : Nat} (hc : c < 8) (ho : o < 8) (hk : k < 8) (hl : l < 8) (ek : W (43 + 9 * o + 5) = (Int32.ofNat k)) (el : W (43 + 9 * c + 5) = (Int32.ofNat l)) (d : Nat) : am_cl (d + 3) qM_isBetter [.ref 3, .int (Int32.ofNat c), .int (Int32.ofNat o)] h = some (.inl (some (bi (¬ gdN W v c o k ≤ gdN W v c c l))), h) := by
  have r12 := R.2.2.2.2.2.2.2.2.2.2.2.1
  have e5 : h.2 (3 + 7 + 5) c = (Int32.ofNat l) := by rw [r12 5 c (by omega) hc]; exact el
  have a := fun d => xM_likes R hv hc ho hk ek d
  have b := fun d => xM_likes R hv hc hc hl el d
  have i := lk_gd (W := W) (v := v) (c := c) (o := o) (o' := c) (hv k (by omega)).1 (hv l (by omega)).1
  have la := lk_le (W := W) (v := v) (c := c) (o := o) (hv k (by omega)).1
  have lb := lk_le (W := W) (v := v) (c := c) (o := c) (hv l (by omega)).1
  by_cases hq : lkN W v c o k ≤ lkN W v c c l
  · rw [bi_f (show ¬ ¬ gdN W v c o k ≤ gdN W v c c l from fun q => q (i.mp hq))]
    simp -implicitDefEqProofs (disch := (first | omega | assumption | exact am_isS_3 | exact am_isS_25 | exact am_isX_356 | exact am_isX_359)) only [uM_isBetter, ggM_isBetter_0, ggM_isBetter_1, ggM_isBetter_2, ggM_isBetter_3, ggM_isBetter_4, ccM_isBetter_1_2, ccM_isBetter_1_1, e5, a, b, am_kI_x, am_kV_x, am_kI_i, am_nI_i, am_kV_i, am_nV_i, ↓reduceIte, eq_self, if_true, if_false, c_in, c_tn, pn_add, pn_mul, pn_subc, pn_addm, c_le_t, c_le_f, c_lt_t, c_lt_f, c_eq_f, c_eqm, bi_z, bi_1, bi_b, bi_T, bi_F, ite_not, up_eq, up_ne, or_self, or_true, true_or, or_false, false_or, and_true, true_and, and_self, not_true_eq_false, not_false_eq_true, Bool.false_eq_true]
  · rw [bi_t (show ¬ gdN W v c o k ≤ gdN W v c c l from fun q => hq (i.mpr q))]
    simp -implicitDefEqProofs (disch := (first | omega | assumption | exact am_isS_3 | exact am_isS_25 | exact am_isX_356 | exact am_isX_359)) only [uM_isBetter, ggM_isBetter_0, ggM_isBetter_1, ggM_isBetter_2, ggM_isBetter_3, ggM_isBetter_4, ccM_isBetter_1_2, ccM_isBetter_1_1, e5, a, b, am_kI_x, am_kV_x, am_kI_i, am_nI_i, am_kV_i, am_nV_i, ↓reduceIte, eq_self, if_true, if_false, c_in, c_tn, pn_add, pn_mul, pn_subc, pn_addm, c_le_t, c_le_f, c_lt_t, c_lt_f, c_eq_f, c_eqm, bi_z, bi_1, bi_b, bi_T, bi_F, ite_not, up_eq, up_ne, or_self, or_true, true_or, or_false, false_or, and_true, true_and, and_self, not_true_eq_false, not_false_eq_true, Bool.false_eq_true]
theorem xM_isBetterN {h : am_H} {W : Nat → Int32} {N G : Nat} (R : RelS h 3 W N G) {v : Nat → Nat} (hv : ∀ t, t < 9 → v t ≤ 99 ∧ W (7 + 4 * t + 3) = (Int32.ofNat (v t))) {c o l : Nat} (hc : c < 8) (ho : o < 8) (hl : l < 8) (ek : W (43 + 9 * o + 5) = -1) (el : W (43 + 9 * c + 5) = (Int32.ofNat l)) (d : Nat) : am_cl (d + 3) qM_isBetter [.ref 3, .int (Int32.ofNat c), .int (Int32.ofNat o)] h = some (.inl (some ((Int32.ofNat 0))), h) := by
  have r12 := R.2.2.2.2.2.2.2.2.2.2.2.1
  have e5 : h.2 (3 + 7 + 5) c = (Int32.ofNat l) := by rw [r12 5 c (by omega) hc]; exact el
  have e6 : h.2 (3 + 7 + 5) o = -1 := by rw [r12 5 o (by omega) ho]; exact ek
  have ew : ∀ d, am_cl (d + 1) qS_worthKept [.ref 3, .int (Int32.ofNat o)] h = some (.inl (some (-1)), h) := fun d => by
    rw [sS_worthKept am_isS_3 ho d (Or.inl e6), if_pos e6]
  have a : ∀ d, am_cl (d + 2) qM_likes [.ref 3, .int (Int32.ofNat c), .int (Int32.ofNat o)] h = some (.inl (some (-1)), h) := fun d => by simp -implicitDefEqProofs (disch := (first | omega | assumption | exact am_isS_3 | exact am_isS_25 | exact am_isX_356 | exact am_isX_359)) only [uM_likes, ggM_likes_0, ggM_likes_1, ggM_likes_2, ggM_likes_3, ggM_likes_4, ccM_likes_3_1, e6, ew, am_kI_x, am_kV_x, am_kI_i, am_nI_i, am_kV_i, am_nV_i, ↓reduceIte, eq_self, if_true, if_false, c_in, c_tn, pn_add, pn_mul, pn_subc, pn_addm, c_le_t, c_le_f, c_lt_t, c_lt_f, c_eq_f, c_eqm, bi_z, bi_1, bi_b, bi_T, bi_F, ite_not, up_eq, up_ne, or_self, or_true, true_or, or_false, false_or, and_true, true_and, and_self, not_true_eq_false, not_false_eq_true, Bool.false_eq_true]
  have b := fun d => xM_likes R hv hc hc hl el d
  have lb := lk_le (W := W) (v := v) (c := c) (o := c) (hv l (by omega)).1
  have hm : (-1 : Int32) ≤ (Int32.ofNat (lkN W v c c l)) := by
    rw [Int32.le_iff_toInt_le, pn_toInt (by omega)]
    have : ((-1 : Int32)).toInt = -1 := by decide
    omega
  simp -implicitDefEqProofs (disch := (first | omega | assumption | exact am_isS_3 | exact am_isS_25 | exact am_isX_356 | exact am_isX_359)) only [uM_isBetter, ggM_isBetter_0, ggM_isBetter_1, ggM_isBetter_2, ggM_isBetter_3, ggM_isBetter_4, ccM_isBetter_1_2, ccM_isBetter_1_1, e5, a, b, hm, am_kI_x, am_kV_x, am_kI_i, am_nI_i, am_kV_i, am_nV_i, ↓reduceIte, eq_self, if_true, if_false, c_in, c_tn, pn_add, pn_mul, pn_subc, pn_addm, c_le_t, c_le_f, c_lt_t, c_lt_f, c_eq_f, c_eqm, bi_z, bi_1, bi_b, bi_T, bi_F, ite_not, up_eq, up_ne, or_self, or_true, true_or, or_false, false_or, and_true, true_and, and_self, not_true_eq_false, not_false_eq_true, Bool.false_eq_true]
theorem rR_gladOf {h : am_H} {v : Nat → Nat} (hv : ∀ t, t < 9 → v t ≤ 99 ∧ h.2 374 (7 + 4 * t + 3) = (Int32.ofNat (v t))) {c o k : Nat} (hc : c < 8) (ho : o < 8) (hk : k < 8) (ek : h.2 374 (43 + 9 * o + 5) = (Int32.ofNat k)) (d : Nat) : am_cl (d + 3) qR_gladOf [.ref 373, .int (Int32.ofNat c), .int (Int32.ofNat o)] h = some (.inl (some ((Int32.ofNat (gdN (h.2 374) v c o k)))), h) := by
  have ev := (hv k (by omega)).2
  unfold gdN
  by_cases hq : h.2 374 (43 + 9 * o + 5) = h.2 374 (43 + 9 * c + 4)
  · rw [if_pos hq]
    rw [ek] at hq
    simp -implicitDefEqProofs (disch := (first | omega | assumption | exact am_isS_3 | exact am_isS_25 | exact am_isX_356 | exact am_isX_359)) only [uR_gladOf, ggR_gladOf_0, ggR_gladOf_1, ggR_gladOf_2, ggR_gladOf_3, ccR_gladOf_0_2, ccR_gladOf_0_1, ccR_gladOf_2_2, ccR_gladOf_2_1, rR_of, ek, ← hq, am_kI_x, am_kV_x, am_kI_i, am_nI_i, am_kV_i, am_nV_i, ↓reduceIte, eq_self, if_true, if_false, c_in, c_tn, pn_add, pn_mul, pn_subc, pn_addm, c_le_t, c_le_f, c_lt_t, c_lt_f, c_eq_f, c_eqm, bi_z, bi_1, bi_b, bi_T, bi_F, ite_not, up_eq, up_ne, or_self, or_true, true_or, or_false, false_or, and_true, true_and, and_self, not_true_eq_false, not_false_eq_true, Bool.false_eq_true]
  · rw [if_neg hq]
    rw [ek] at hq
    simp -implicitDefEqProofs (disch := (first | omega | assumption | exact am_isS_3 | exact am_isS_25 | exact am_isX_356 | exact am_isX_359)) only [uR_gladOf, ggR_gladOf_0, ggR_gladOf_1, ggR_gladOf_2, ggR_gladOf_3, ccR_gladOf_0_2, ccR_gladOf_0_1, ccR_gladOf_2_2, ccR_gladOf_2_1, rR_of, rR_ofThing, ek, hq, ev, am_kI_x, am_kV_x, am_kI_i, am_nI_i, am_kV_i, am_nV_i, ↓reduceIte, eq_self, if_true, if_false, c_in, c_tn, pn_add, pn_mul, pn_subc, pn_addm, c_le_t, c_le_f, c_lt_t, c_lt_f, c_eq_f, c_eqm, bi_z, bi_1, bi_b, bi_T, bi_F, ite_not, up_eq, up_ne, or_self, or_true, true_or, or_false, false_or, and_true, true_and, and_self, not_true_eq_false, not_false_eq_true, Bool.false_eq_true]
theorem T_swap (x y : Int32) : Two qF_swap [.ref 0, .int x, .int y] qR_swap [.ref 373, .int x, .int y] (am_ctt 24) := by
  intro d hC hR J
  have J0 := J.thr (Int32.ofNat 0)
  obtain ⟨⟨N, G, R, okt, okc, okk, RL⟩, -⟩ := id J
  have hN := R.1
  have r3 := R.2.2.1
  have r4 := R.2.2.2.1
  rcases ch_cases hN x with ⟨a, ha, rfl⟩ | ⟨b1, b2⟩
  · rcases ch_cases hN y with ⟨b, hb, rfl⟩ | ⟨b1, b2⟩
    · by_cases hab : a = b
      · subst hab
        refine ⟨am_th hC, am_up (am_up hR 373 0 (Int32.ofNat 0)) 373 0 (Int32.ofNat 2), (J0.thr (Int32.ofNat 2)).th, rfl, Or.inr ⟨1, 2, (Int32.ofNat 0), rfl, by decide, up_eq rfl rfl, ?_, ?_⟩⟩
        · simp -implicitDefEqProofs (disch := (first | omega | assumption | exact am_isS_3 | exact am_isS_25 | exact am_isX_356 | exact am_isX_359)) only [uF_swap, ggF_swap_0, ggF_swap_1, ggF_swap_2, ggF_swap_3, ggF_swap_4, ccF_swap_0_2, ccF_swap_0_1, ccF_swap_1_1, xF_needTwo_1 hN r4 ha, am_kI_x, am_kV_x, am_kI_i, am_nI_i, am_kV_i, am_nV_i, ↓reduceIte, eq_self, if_true, if_false, c_in, c_tn, pn_add, pn_mul, pn_subc, pn_addm, c_le_t, c_le_f, c_lt_t, c_lt_f, c_eq_f, c_eqm, bi_z, bi_1, bi_b, bi_T, bi_F, ite_not, up_eq, up_ne, or_self, or_true, true_or, or_false, false_or, and_true, true_and, and_self, not_true_eq_false, not_false_eq_true, Bool.false_eq_true]
        · simp -implicitDefEqProofs (disch := (first | omega | assumption | exact am_isS_3 | exact am_isS_25 | exact am_isX_356 | exact am_isX_359)) only [uR_swap, ggR_swap_0, ggR_swap_1, ggR_swap_2, ggR_swap_3, ggR_swap_4, ggR_swap_5, ggR_swap_6, ggR_swap_7, ggR_swap_8, ccR_swap_0_1, ccR_swap_2_1, ccR_swap_3_1, ccR_swap_4_2, ccR_swap_4_1, ccR_swap_5_2, ccR_swap_5_1, rR_noTwo_1 hN r3 ha, am_kI_x, am_kV_x, am_kI_i, am_nI_i, am_kV_i, am_nV_i, ↓reduceIte, eq_self, if_true, if_false, c_in, c_tn, pn_add, pn_mul, pn_subc, pn_addm, c_le_t, c_le_f, c_lt_t, c_lt_f, c_eq_f, c_eqm, bi_z, bi_1, bi_b, bi_T, bi_F, ite_not, up_eq, up_ne, or_self, or_true, true_or, or_false, false_or, and_true, true_and, and_self, not_true_eq_false, not_false_eq_true, Bool.false_eq_true]
      · have ha8 : a < 8 := by omega
        have hb8 : b < 8 := by omega
        obtain ⟨v, hv⟩ := wo_nat okt
        have hvR : ∀ t, t < 9 → v t ≤ 99 ∧ (am_up hR 373 0 (Int32.ofNat 0)).2 374 (7 + 4 * t + 3) = (Int32.ofNat (v t)) := by rw [up_o (by omega)]; exact hv
        rcases (okc a ha).2.2.2.2.2.1 with ea | ⟨k, hk, ea⟩
        · refine ⟨hC, am_up hR 373 0 (Int32.ofNat 0), J0, rfl, Or.inl ⟨(Int32.ofNat 0), rfl, up_eq rfl rfl, ?_, ?_⟩⟩
          · simp -implicitDefEqProofs (disch := (first | omega | assumption | exact am_isS_3 | exact am_isS_25 | exact am_isX_356 | exact am_isX_359)) only [uF_swap, ggF_swap_0, ggF_swap_1, ggF_swap_2, ggF_swap_3, ggF_swap_4, ccF_swap_0_2, ccF_swap_0_1, ccF_swap_1_1, xF_needTwo hN r4 ha hb hab, xM_isBetter0 R b ha8 ea, am_kI_x, am_kV_x, am_kI_i, am_nI_i, am_kV_i, am_nV_i, ↓reduceIte, eq_self, if_true, if_false, c_in, c_tn, pn_add, pn_mul, pn_subc, pn_addm, c_le_t, c_le_f, c_lt_t, c_lt_f, c_eq_f, c_eqm, bi_z, bi_1, bi_b, bi_T, bi_F, ite_not, up_eq, up_ne, or_self, or_true, true_or, or_false, false_or, and_true, true_and, and_self, not_true_eq_false, not_false_eq_true, Bool.false_eq_true]
          · simp -implicitDefEqProofs (disch := (first | omega | assumption | exact am_isS_3 | exact am_isS_25 | exact am_isX_356 | exact am_isX_359)) only [uR_swap, ggR_swap_0, ggR_swap_1, ggR_swap_2, ggR_swap_3, ggR_swap_4, ggR_swap_5, ggR_swap_6, ggR_swap_7, ggR_swap_8, ccR_swap_0_1, ccR_swap_2_1, ccR_swap_3_1, ccR_swap_4_2, ccR_swap_4_1, ccR_swap_5_2, ccR_swap_5_1, rR_noTwo hN r3 ha hb hab, rR_keeps, up_o, ea, am_kI_x, am_kV_x, am_kI_i, am_nI_i, am_kV_i, am_nV_i, ↓reduceIte, eq_self, if_true, if_false, c_in, c_tn, pn_add, pn_mul, pn_subc, pn_addm, c_le_t, c_le_f, c_lt_t, c_lt_f, c_eq_f, c_eqm, bi_z, bi_1, bi_b, bi_T, bi_F, ite_not, up_eq, up_ne, or_self, or_true, true_or, or_false, false_or, and_true, true_and, and_self, not_true_eq_false, not_false_eq_true, Bool.false_eq_true]
        · rcases (okc b hb).2.2.2.2.2.1 with eb | ⟨l, hl, eb⟩
          · refine ⟨hC, am_up hR 373 0 (Int32.ofNat 0), J0, rfl, Or.inl ⟨(Int32.ofNat 0), rfl, up_eq rfl rfl, ?_, ?_⟩⟩
            · simp -implicitDefEqProofs (disch := (first | omega | assumption | exact am_isS_3 | exact am_isS_25 | exact am_isX_356 | exact am_isX_359)) only [uF_swap, ggF_swap_0, ggF_swap_1, ggF_swap_2, ggF_swap_3, ggF_swap_4, ccF_swap_0_2, ccF_swap_0_1, ccF_swap_1_1, xF_needTwo hN r4 ha hb hab, xM_isBetterN R hv ha8 hb8 hk eb ea, am_kI_x, am_kV_x, am_kI_i, am_nI_i, am_kV_i, am_nV_i, ↓reduceIte, eq_self, if_true, if_false, c_in, c_tn, pn_add, pn_mul, pn_subc, pn_addm, c_le_t, c_le_f, c_lt_t, c_lt_f, c_eq_f, c_eqm, bi_z, bi_1, bi_b, bi_T, bi_F, ite_not, up_eq, up_ne, or_self, or_true, true_or, or_false, false_or, and_true, true_and, and_self, not_true_eq_false, not_false_eq_true, Bool.false_eq_true]
            · simp -implicitDefEqProofs (disch := (first | omega | assumption | exact am_isS_3 | exact am_isS_25 | exact am_isX_356 | exact am_isX_359)) only [uR_swap, ggR_swap_0, ggR_swap_1, ggR_swap_2, ggR_swap_3, ggR_swap_4, ggR_swap_5, ggR_swap_6, ggR_swap_7, ggR_swap_8, ccR_swap_0_1, ccR_swap_2_1, ccR_swap_3_1, ccR_swap_4_2, ccR_swap_4_1, ccR_swap_5_2, ccR_swap_5_1, rR_noTwo hN r3 ha hb hab, rR_keeps, up_o, ea, eb, am_kI_x, am_kV_x, am_kI_i, am_nI_i, am_kV_i, am_nV_i, ↓reduceIte, eq_self, if_true, if_false, c_in, c_tn, pn_add, pn_mul, pn_subc, pn_addm, c_le_t, c_le_f, c_lt_t, c_lt_f, c_eq_f, c_eqm, bi_z, bi_1, bi_b, bi_T, bi_F, ite_not, up_eq, up_ne, or_self, or_true, true_or, or_false, false_or, and_true, true_and, and_self, not_true_eq_false, not_false_eq_true, Bool.false_eq_true]
          · have c1 := fun d => xM_isBetter R hv ha8 hb8 hl hk eb ea d
            have c2 := fun d => xM_isBetter R hv hb8 ha8 hk hl ea eb d
            have g1 := fun d => rR_gladOf hvR ha8 hb8 hl (by rw [up_o (by omega)]; exact eb) d
            have g2 := fun d => rR_gladOf hvR ha8 ha8 hk (by rw [up_o (by omega)]; exact ea) d
            have g3 := fun d => rR_gladOf hvR hb8 ha8 hk (by rw [up_o (by omega)]; exact ea) d
            have g4 := fun d => rR_gladOf hvR hb8 hb8 hl (by rw [up_o (by omega)]; exact eb) d
            rw [up_o (by omega)] at g1 g2 g3 g4
            have l1 := gd_le (W := hR.2 374) (v := v) (c := a) (o := b) (hv l (by omega)).1
            have l2 := gd_le (W := hR.2 374) (v := v) (c := a) (o := a) (hv k (by omega)).1
            have l3 := gd_le (W := hR.2 374) (v := v) (c := b) (o := a) (hv k (by omega)).1
            have l4 := gd_le (W := hR.2 374) (v := v) (c := b) (o := b) (hv l (by omega)).1
            by_cases q1 : gdN (hR.2 374) v a b l ≤ gdN (hR.2 374) v a a k
            · refine ⟨hC, am_up hR 373 0 (Int32.ofNat 0), J0, rfl, Or.inl ⟨(Int32.ofNat 0), rfl, up_eq rfl rfl, ?_, ?_⟩⟩
              · simp -implicitDefEqProofs (disch := (first | omega | assumption | exact am_isS_3 | exact am_isS_25 | exact am_isX_356 | exact am_isX_359)) only [uF_swap, ggF_swap_0, ggF_swap_1, ggF_swap_2, ggF_swap_3, ggF_swap_4, ccF_swap_0_2, ccF_swap_0_1, ccF_swap_1_1, xF_needTwo hN r4 ha hb hab, c1, q1, am_kI_x, am_kV_x, am_kI_i, am_nI_i, am_kV_i, am_nV_i, ↓reduceIte, eq_self, if_true, if_false, c_in, c_tn, pn_add, pn_mul, pn_subc, pn_addm, c_le_t, c_le_f, c_lt_t, c_lt_f, c_eq_f, c_eqm, bi_z, bi_1, bi_b, bi_T, bi_F, ite_not, up_eq, up_ne, or_self, or_true, true_or, or_false, false_or, and_true, true_and, and_self, not_true_eq_false, not_false_eq_true, Bool.false_eq_true]
              · simp -implicitDefEqProofs (disch := (first | omega | assumption | exact am_isS_3 | exact am_isS_25 | exact am_isX_356 | exact am_isX_359)) only [uR_swap, ggR_swap_0, ggR_swap_1, ggR_swap_2, ggR_swap_3, ggR_swap_4, ggR_swap_5, ggR_swap_6, ggR_swap_7, ggR_swap_8, ccR_swap_0_1, ccR_swap_2_1, ccR_swap_3_1, ccR_swap_4_2, ccR_swap_4_1, ccR_swap_5_2, ccR_swap_5_1, rR_noTwo hN r3 ha hb hab, rR_keeps, up_o, ea, eb, g1, g2, am_kI_x, am_kV_x, am_kI_i, am_nI_i, am_kV_i, am_nV_i, ↓reduceIte, eq_self, if_true, if_false, c_in, c_tn, pn_add, pn_mul, pn_subc, pn_addm, c_le_t, c_le_f, c_lt_t, c_lt_f, c_eq_f, c_eqm, bi_z, bi_1, bi_b, bi_T, bi_F, ite_not, up_eq, up_ne, or_self, or_true, true_or, or_false, false_or, and_true, true_and, and_self, not_true_eq_false, not_false_eq_true, Bool.false_eq_true]
            · by_cases q2 : gdN (hR.2 374) v b a k ≤ gdN (hR.2 374) v b b l
              · refine ⟨hC, am_up hR 373 0 (Int32.ofNat 0), J0, rfl, Or.inl ⟨(Int32.ofNat 0), rfl, up_eq rfl rfl, ?_, ?_⟩⟩
                · simp -implicitDefEqProofs (disch := (first | omega | assumption | exact am_isS_3 | exact am_isS_25 | exact am_isX_356 | exact am_isX_359)) only [uF_swap, ggF_swap_0, ggF_swap_1, ggF_swap_2, ggF_swap_3, ggF_swap_4, ccF_swap_0_2, ccF_swap_0_1, ccF_swap_1_1, xF_needTwo hN r4 ha hb hab, c1, q1, c2, q2, am_kI_x, am_kV_x, am_kI_i, am_nI_i, am_kV_i, am_nV_i, ↓reduceIte, eq_self, if_true, if_false, c_in, c_tn, pn_add, pn_mul, pn_subc, pn_addm, c_le_t, c_le_f, c_lt_t, c_lt_f, c_eq_f, c_eqm, bi_z, bi_1, bi_b, bi_T, bi_F, ite_not, up_eq, up_ne, or_self, or_true, true_or, or_false, false_or, and_true, true_and, and_self, not_true_eq_false, not_false_eq_true, Bool.false_eq_true]
                · simp -implicitDefEqProofs (disch := (first | omega | assumption | exact am_isS_3 | exact am_isS_25 | exact am_isX_356 | exact am_isX_359)) only [uR_swap, ggR_swap_0, ggR_swap_1, ggR_swap_2, ggR_swap_3, ggR_swap_4, ggR_swap_5, ggR_swap_6, ggR_swap_7, ggR_swap_8, ccR_swap_0_1, ccR_swap_2_1, ccR_swap_3_1, ccR_swap_4_2, ccR_swap_4_1, ccR_swap_5_2, ccR_swap_5_1, rR_noTwo hN r3 ha hb hab, rR_keeps, up_o, ea, eb, g1, g2, g3, g4, am_kI_x, am_kV_x, am_kI_i, am_nI_i, am_kV_i, am_nV_i, ↓reduceIte, eq_self, if_true, if_false, c_in, c_tn, pn_add, pn_mul, pn_subc, pn_addm, c_le_t, c_le_f, c_lt_t, c_lt_f, c_eq_f, c_eqm, bi_z, bi_1, bi_b, bi_T, bi_F, ite_not, up_eq, up_ne, or_self, or_true, true_or, or_false, false_or, and_true, true_and, and_self, not_true_eq_false, not_false_eq_true, Bool.false_eq_true]
              · refine ⟨hC, am_up hR 373 0 (Int32.ofNat 0), J0, rfl, Or.inl ⟨(Int32.ofNat 1), rfl, up_eq rfl rfl, ?_, ?_⟩⟩
                · simp -implicitDefEqProofs (disch := (first | omega | assumption | exact am_isS_3 | exact am_isS_25 | exact am_isX_356 | exact am_isX_359)) only [uF_swap, ggF_swap_0, ggF_swap_1, ggF_swap_2, ggF_swap_3, ggF_swap_4, ccF_swap_0_2, ccF_swap_0_1, ccF_swap_1_1, xF_needTwo hN r4 ha hb hab, c1, q1, c2, q2, am_kI_x, am_kV_x, am_kI_i, am_nI_i, am_kV_i, am_nV_i, ↓reduceIte, eq_self, if_true, if_false, c_in, c_tn, pn_add, pn_mul, pn_subc, pn_addm, c_le_t, c_le_f, c_lt_t, c_lt_f, c_eq_f, c_eqm, bi_z, bi_1, bi_b, bi_T, bi_F, ite_not, up_eq, up_ne, or_self, or_true, true_or, or_false, false_or, and_true, true_and, and_self, not_true_eq_false, not_false_eq_true, Bool.false_eq_true]
                · simp -implicitDefEqProofs (disch := (first | omega | assumption | exact am_isS_3 | exact am_isS_25 | exact am_isX_356 | exact am_isX_359)) only [uR_swap, ggR_swap_0, ggR_swap_1, ggR_swap_2, ggR_swap_3, ggR_swap_4, ggR_swap_5, ggR_swap_6, ggR_swap_7, ggR_swap_8, ccR_swap_0_1, ccR_swap_2_1, ccR_swap_3_1, ccR_swap_4_2, ccR_swap_4_1, ccR_swap_5_2, ccR_swap_5_1, rR_noTwo hN r3 ha hb hab, rR_keeps, up_o, ea, eb, g1, g2, g3, g4, am_kI_x, am_kV_x, am_kI_i, am_nI_i, am_kV_i, am_nV_i, ↓reduceIte, eq_self, if_true, if_false, c_in, c_tn, pn_add, pn_mul, pn_subc, pn_addm, c_le_t, c_le_f, c_lt_t, c_lt_f, c_eq_f, c_eqm, bi_z, bi_1, bi_b, bi_T, bi_F, ite_not, up_eq, up_ne, or_self, or_true, true_or, or_false, false_or, and_true, true_and, and_self, not_true_eq_false, not_false_eq_true, Bool.false_eq_true]
    · refine ⟨am_th hC, am_up (am_up hR 373 0 (Int32.ofNat 0)) 373 0 (Int32.ofNat 1), (J0.thr (Int32.ofNat 1)).th, rfl, Or.inr ⟨3, 1, (Int32.ofNat 0), rfl, by decide, up_eq rfl rfl, ?_, ?_⟩⟩
      · simp -implicitDefEqProofs (disch := (first | omega | assumption | exact am_isS_3 | exact am_isS_25 | exact am_isX_356 | exact am_isX_359)) only [uF_swap, ggF_swap_0, ggF_swap_1, ggF_swap_2, ggF_swap_3, ggF_swap_4, ccF_swap_0_2, ccF_swap_0_1, ccF_swap_1_1, xF_needTwo_y hN r4 ha b2, am_kI_x, am_kV_x, am_kI_i, am_nI_i, am_kV_i, am_nV_i, ↓reduceIte, eq_self, if_true, if_false, c_in, c_tn, pn_add, pn_mul, pn_subc, pn_addm, c_le_t, c_le_f, c_lt_t, c_lt_f, c_eq_f, c_eqm, bi_z, bi_1, bi_b, bi_T, bi_F, ite_not, up_eq, up_ne, or_self, or_true, true_or, or_false, false_or, and_true, true_and, and_self, not_true_eq_false, not_false_eq_true, Bool.false_eq_true]
      · simp -implicitDefEqProofs (disch := (first | omega | assumption | exact am_isS_3 | exact am_isS_25 | exact am_isX_356 | exact am_isX_359)) only [uR_swap, ggR_swap_0, ggR_swap_1, ggR_swap_2, ggR_swap_3, ggR_swap_4, ggR_swap_5, ggR_swap_6, ggR_swap_7, ggR_swap_8, ccR_swap_0_1, ccR_swap_2_1, ccR_swap_3_1, ccR_swap_4_2, ccR_swap_4_1, ccR_swap_5_2, ccR_swap_5_1, rR_noTwo_y hN r3 ha b1, am_kI_x, am_kV_x, am_kI_i, am_nI_i, am_kV_i, am_nV_i, ↓reduceIte, eq_self, if_true, if_false, c_in, c_tn, pn_add, pn_mul, pn_subc, pn_addm, c_le_t, c_le_f, c_lt_t, c_lt_f, c_eq_f, c_eqm, bi_z, bi_1, bi_b, bi_T, bi_F, ite_not, up_eq, up_ne, or_self, or_true, true_or, or_false, false_or, and_true, true_and, and_self, not_true_eq_false, not_false_eq_true, Bool.false_eq_true]
  · refine ⟨am_th hC, am_up (am_up hR 373 0 (Int32.ofNat 0)) 373 0 (Int32.ofNat 1), (J0.thr (Int32.ofNat 1)).th, rfl, Or.inr ⟨3, 1, (Int32.ofNat 0), rfl, by decide, up_eq rfl rfl, ?_, ?_⟩⟩
    · simp -implicitDefEqProofs (disch := (first | omega | assumption | exact am_isS_3 | exact am_isS_25 | exact am_isX_356 | exact am_isX_359)) only [uF_swap, ggF_swap_0, ggF_swap_1, ggF_swap_2, ggF_swap_3, ggF_swap_4, ccF_swap_0_2, ccF_swap_0_1, ccF_swap_1_1, xF_needTwo_x y r4 b2, am_kI_x, am_kV_x, am_kI_i, am_nI_i, am_kV_i, am_nV_i, ↓reduceIte, eq_self, if_true, if_false, c_in, c_tn, pn_add, pn_mul, pn_subc, pn_addm, c_le_t, c_le_f, c_lt_t, c_lt_f, c_eq_f, c_eqm, bi_z, bi_1, bi_b, bi_T, bi_F, ite_not, up_eq, up_ne, or_self, or_true, true_or, or_false, false_or, and_true, true_and, and_self, not_true_eq_false, not_false_eq_true, Bool.false_eq_true]
    · simp -implicitDefEqProofs (disch := (first | omega | assumption | exact am_isS_3 | exact am_isS_25 | exact am_isX_356 | exact am_isX_359)) only [uR_swap, ggR_swap_0, ggR_swap_1, ggR_swap_2, ggR_swap_3, ggR_swap_4, ggR_swap_5, ggR_swap_6, ggR_swap_7, ggR_swap_8, ccR_swap_0_1, ccR_swap_2_1, ccR_swap_3_1, ccR_swap_4_2, ccR_swap_4_1, ccR_swap_5_2, ccR_swap_5_1, rR_noTwo_x y r3 b1, am_kI_x, am_kV_x, am_kI_i, am_nI_i, am_kV_i, am_nV_i, ↓reduceIte, eq_self, if_true, if_false, c_in, c_tn, pn_add, pn_mul, pn_subc, pn_addm, c_le_t, c_le_f, c_lt_t, c_lt_f, c_eq_f, c_eqm, bi_z, bi_1, bi_b, bi_T, bi_F, ite_not, up_eq, up_ne, or_self, or_true, true_or, or_false, false_or, and_true, true_and, and_self, not_true_eq_false, not_false_eq_true, Bool.false_eq_true]
/-! choices of a family and a child -/
theorem x_02 : ((Int32.ofNat 0) : Int32) ^^^ (Int32.ofNat 2) = (Int32.ofNat 2) := by decide
theorem x_12 : ((Int32.ofNat 1) : Int32) ^^^ (Int32.ofNat 2) = (Int32.ofNat 3) := by decide
theorem x_22 : ((Int32.ofNat 2) : Int32) ^^^ (Int32.ofNat 2) = (Int32.ofNat 0) := by decide
theorem x_32 : ((Int32.ofNat 3) : Int32) ^^^ (Int32.ofNat 2) = (Int32.ofNat 1) := by decide
theorem x_01 : ((Int32.ofNat 0) : Int32) ^^^ (Int32.ofNat 1) = (Int32.ofNat 1) := by decide
theorem x_11 : ((Int32.ofNat 1) : Int32) ^^^ (Int32.ofNat 1) = (Int32.ofNat 0) := by decide
theorem x_21 : ((Int32.ofNat 2) : Int32) ^^^ (Int32.ofNat 1) = (Int32.ofNat 3) := by decide
theorem x_31 : ((Int32.ofNat 3) : Int32) ^^^ (Int32.ofNat 1) = (Int32.ofNat 2) := by decide
theorem m2_1 : ((-2 : Int32) < (Int32.ofNat 1)) = True := by decide
theorem l_12 : ((Int32.ofNat 1) < (-2 : Int32)) = False := by decide
theorem s_13 : ((Int32.ofNat 1) : Int32) - (Int32.ofNat 3) = -2 := by decide
theorem ng_all : (List.range 10).all (fun g => decide (g = 0) || (decide (-(Int32.ofNat g) < Int32.ofNat 0) && decide (¬ Int32.ofNat 0 < -(Int32.ofNat g)))) = true := by decide +kernel
theorem ng_at {g : Nat} (hg : g < 10) (h0 : g ≠ 0) : (-((Int32.ofNat g) : Int32) < (Int32.ofNat 0)) = True ∧ ((Int32.ofNat 0) < -((Int32.ofNat g) : Int32)) = False := by
  have := List.all_eq_true.mp ng_all g (List.mem_range.mpr hg)
  rw [decide_eq_false h0, Bool.false_or, Bool.and_eq_true] at this
  exact ⟨eq_true (of_decide_eq_true this.1), eq_false (of_decide_eq_true this.2)⟩
theorem ng_0 : -((Int32.ofNat 0) : Int32) = (Int32.ofNat 0) := by decide
def rsN (e g : Nat) : Int32 := if g = 0 then (if e / 2 < e then (Int32.ofNat 0) ||| ((Int32.ofNat 1) <<< ((Int32.ofNat 0) &&& (Int32.ofNat 31))) else ((Int32.ofNat 0) ||| ((Int32.ofNat 1) <<< ((Int32.ofNat 0) &&& (Int32.ofNat 31)))) ||| ((Int32.ofNat 1) <<< ((Int32.ofNat 3) &&& (Int32.ofNat 31)))) else (if e / 2 < e then (Int32.ofNat 0) else (Int32.ofNat 0) ||| ((Int32.ofNat 1) <<< ((Int32.ofNat 3) &&& (Int32.ofNat 31))))
theorem xF_restingChoices {e g : Nat} (he : e < 100000) (hg : g < 10) (d : Nat) (h : am_H) : am_cl (d + 2) qF_restingChoices [.int (Int32.ofNat e), .int (Int32.ofNat g)] h = some (.inl (some (rsN e g)), h) := by
  have e2 : e / 2 ≤ e := Nat.div_le_self _ _
  unfold rsN
  by_cases h0 : g = 0
  · subst h0
    rw [if_pos rfl]
    by_cases hq : e / 2 < e
    · rw [if_pos hq]
      simp -implicitDefEqProofs (disch := (first | omega | assumption | exact am_isS_3 | exact am_isS_25 | exact am_isX_356 | exact am_isX_359)) only [uF_restingChoices, ggF_restingChoices_1, ggF_restingChoices_0, ggF_restingChoices_2, ggF_restingChoices_3, ggF_restingChoices_4, ggF_restingChoices_5, ggF_restingChoices_6, ggF_restingChoices_7, ggF_restingChoices_8, ggF_restingChoices_9, ggF_restingChoices_10, ggF_restingChoices_11, ggF_restingChoices_12, ccF_restingChoices_2_2, ccF_restingChoices_2_1, ccF_restingChoices_5_2, ccF_restingChoices_5_1, ggF_familyGain_0, w3_0, w3_1, w3_2, w3_3, w3_4, ggF_familyGain_1, ggF_familyGain_2, ggF_familyGain_3, ggF_familyGain_4, ggF_childGain_0, w4_0, w4_1, w4_2, w4_3, w4_4, ggF_childGain_1, ggF_childGain_2, ggF_childGain_3, ggF_childGain_4, uF_familyGain, uF_childGain, ng_0, pn_div, x_02, x_12, x_22, x_32, x_01, x_11, x_21, x_31, m2_1, l_12, Nat.reduceAdd, am_kI_x, am_kV_x, am_kI_i, am_nI_i, am_kV_i, am_nV_i, ↓reduceIte, eq_self, if_true, if_false, c_in, c_tn, pn_add, pn_mul, pn_subc, pn_addm, c_le_t, c_le_f, c_lt_t, c_lt_f, c_eq_f, c_eqm, bi_z, bi_1, bi_b, bi_T, bi_F, ite_not, up_eq, up_ne, or_self, or_true, true_or, or_false, false_or, and_true, true_and, and_self, not_true_eq_false, not_false_eq_true, Bool.false_eq_true]
    · rw [if_neg hq]
      have : e = 0 := by omega
      subst this
      simp -implicitDefEqProofs (disch := (first | omega | assumption | exact am_isS_3 | exact am_isS_25 | exact am_isX_356 | exact am_isX_359)) only [uF_restingChoices, ggF_restingChoices_1, ggF_restingChoices_0, ggF_restingChoices_2, ggF_restingChoices_3, ggF_restingChoices_4, ggF_restingChoices_5, ggF_restingChoices_6, ggF_restingChoices_7, ggF_restingChoices_8, ggF_restingChoices_9, ggF_restingChoices_10, ggF_restingChoices_11, ggF_restingChoices_12, ccF_restingChoices_2_2, ccF_restingChoices_2_1, ccF_restingChoices_5_2, ccF_restingChoices_5_1, ggF_familyGain_0, w3_0, w3_1, w3_2, w3_3, w3_4, ggF_familyGain_1, ggF_familyGain_2, ggF_familyGain_3, ggF_familyGain_4, ggF_childGain_0, w4_0, w4_1, w4_2, w4_3, w4_4, ggF_childGain_1, ggF_childGain_2, ggF_childGain_3, ggF_childGain_4, uF_familyGain, uF_childGain, ng_0, pn_div, x_02, x_12, x_22, x_32, x_01, x_11, x_21, x_31, m2_1, l_12, Nat.reduceAdd, Nat.zero_div, am_kI_x, am_kV_x, am_kI_i, am_nI_i, am_kV_i, am_nV_i, ↓reduceIte, eq_self, if_true, if_false, c_in, c_tn, pn_add, pn_mul, pn_subc, pn_addm, c_le_t, c_le_f, c_lt_t, c_lt_f, c_eq_f, c_eqm, bi_z, bi_1, bi_b, bi_T, bi_F, ite_not, up_eq, up_ne, or_self, or_true, true_or, or_false, false_or, and_true, true_and, and_self, not_true_eq_false, not_false_eq_true, Bool.false_eq_true]
  · obtain ⟨n1, n2⟩ := ng_at hg h0
    rw [if_neg h0]
    by_cases hq : e / 2 < e
    · rw [if_pos hq]
      simp -implicitDefEqProofs (disch := (first | omega | assumption | exact am_isS_3 | exact am_isS_25 | exact am_isX_356 | exact am_isX_359)) only [uF_restingChoices, ggF_restingChoices_1, ggF_restingChoices_0, ggF_restingChoices_2, ggF_restingChoices_3, ggF_restingChoices_4, ggF_restingChoices_5, ggF_restingChoices_6, ggF_restingChoices_7, ggF_restingChoices_8, ggF_restingChoices_9, ggF_restingChoices_10, ggF_restingChoices_11, ggF_restingChoices_12, ccF_restingChoices_2_2, ccF_restingChoices_2_1, ccF_restingChoices_5_2, ccF_restingChoices_5_1, ggF_familyGain_0, w3_0, w3_1, w3_2, w3_3, w3_4, ggF_familyGain_1, ggF_familyGain_2, ggF_familyGain_3, ggF_familyGain_4, ggF_childGain_0, w4_0, w4_1, w4_2, w4_3, w4_4, ggF_childGain_1, ggF_childGain_2, ggF_childGain_3, ggF_childGain_4, uF_familyGain, uF_childGain, n1, n2, pn_div, x_02, x_12, x_22, x_32, x_01, x_11, x_21, x_31, m2_1, l_12, Nat.reduceAdd, am_kI_x, am_kV_x, am_kI_i, am_nI_i, am_kV_i, am_nV_i, ↓reduceIte, eq_self, if_true, if_false, c_in, c_tn, pn_add, pn_mul, pn_subc, pn_addm, c_le_t, c_le_f, c_lt_t, c_lt_f, c_eq_f, c_eqm, bi_z, bi_1, bi_b, bi_T, bi_F, ite_not, up_eq, up_ne, or_self, or_true, true_or, or_false, false_or, and_true, true_and, and_self, not_true_eq_false, not_false_eq_true, Bool.false_eq_true]
    · rw [if_neg hq]
      have : e = 0 := by omega
      subst this
      simp -implicitDefEqProofs (disch := (first | omega | assumption | exact am_isS_3 | exact am_isS_25 | exact am_isX_356 | exact am_isX_359)) only [uF_restingChoices, ggF_restingChoices_1, ggF_restingChoices_0, ggF_restingChoices_2, ggF_restingChoices_3, ggF_restingChoices_4, ggF_restingChoices_5, ggF_restingChoices_6, ggF_restingChoices_7, ggF_restingChoices_8, ggF_restingChoices_9, ggF_restingChoices_10, ggF_restingChoices_11, ggF_restingChoices_12, ccF_restingChoices_2_2, ccF_restingChoices_2_1, ccF_restingChoices_5_2, ccF_restingChoices_5_1, ggF_familyGain_0, w3_0, w3_1, w3_2, w3_3, w3_4, ggF_familyGain_1, ggF_familyGain_2, ggF_familyGain_3, ggF_familyGain_4, ggF_childGain_0, w4_0, w4_1, w4_2, w4_3, w4_4, ggF_childGain_1, ggF_childGain_2, ggF_childGain_3, ggF_childGain_4, uF_familyGain, uF_childGain, n1, n2, pn_div, x_02, x_12, x_22, x_32, x_01, x_11, x_21, x_31, m2_1, l_12, Nat.reduceAdd, Nat.zero_div, am_kI_x, am_kV_x, am_kI_i, am_nI_i, am_kV_i, am_nV_i, ↓reduceIte, eq_self, if_true, if_false, c_in, c_tn, pn_add, pn_mul, pn_subc, pn_addm, c_le_t, c_le_f, c_lt_t, c_lt_f, c_eq_f, c_eqm, bi_z, bi_1, bi_b, bi_T, bi_F, ite_not, up_eq, up_ne, or_self, or_true, true_or, or_false, false_or, and_true, true_and, and_self, not_true_eq_false, not_false_eq_true, Bool.false_eq_true]
theorem rR_rests_l {h : am_H} {e g c : Nat} (hc : c < 8) (he : e < 100000) (hg : g < 10) (eg : h.2 374 (43 + 9 * c + 3) = (Int32.ofNat g)) (d : Nat) : am_go (am_cl (d + 6)) qR_rests 5 [.ref 373, .int (Int32.ofNat c), .int (Int32.ofNat e), .int (Int32.ofNat 0), .int (Int32.ofNat 0), .null, .null] [] h = some (.inl (some (rsN e g)), h) := by
  have e2 : e / 2 ≤ e := Nat.div_le_self _ _
  unfold rsN
  by_cases h0 : g = 0
  · subst h0
    rw [if_pos rfl]
    by_cases hq : e / 2 < e
    · rw [if_pos hq]
      simp -implicitDefEqProofs (disch := (first | omega | assumption | exact am_isS_3 | exact am_isS_25 | exact am_isX_356 | exact am_isX_359)) only [ggR_rests_5, ggR_rests_7, ggR_rests_0, ggR_rests_1, ggR_rests_2, ggR_rests_3, ggR_rests_4, ggR_rests_6, ggR_rests_8, ggR_rests_9, ggR_rests_10, ggR_rests_11, ggR_rests_12, ggR_rests_13, ggR_rests_14, ggR_rests_15, ggR_rests_16, ggR_rests_17, ccR_rests_0_2, ccR_rests_0_1, ccR_rests_2_1, ccR_rests_4_1, ccR_rests_8_2, ccR_rests_8_1, ccR_rests_9_2, ccR_rests_9_1, ggR_familyHas_0, ggR_familyHas_1, ggR_familyHas_2, ggR_familyHas_3, ggR_familyHas_4, ggR_familyHas_5, ggR_familyHas_6, ggR_familyHas_7, ggR_familyHas_8, ccR_familyHas_2_1, ggR_childHas_0, ggR_childHas_1, ggR_childHas_2, ggR_childHas_3, uR_familyHas, uR_childHas, rR_of, eg, ng_0, pn_div, m2_1, l_12, s_13, Nat.reduceAdd, Nat.reduceSub, Nat.reduceMul, or_zero32, am_kI_x, am_kV_x, am_kI_i, am_nI_i, am_kV_i, am_nV_i, ↓reduceIte, eq_self, if_true, if_false, c_in, c_tn, pn_add, pn_mul, pn_subc, pn_addm, c_le_t, c_le_f, c_lt_t, c_lt_f, c_eq_f, c_eqm, bi_z, bi_1, bi_b, bi_T, bi_F, ite_not, up_eq, up_ne, or_self, or_true, true_or, or_false, false_or, and_true, true_and, and_self, not_true_eq_false, not_false_eq_true, Bool.false_eq_true]
    · rw [if_neg hq]
      have : e = 0 := by omega
      subst this
      simp -implicitDefEqProofs (disch := (first | omega | assumption | exact am_isS_3 | exact am_isS_25 | exact am_isX_356 | exact am_isX_359)) only [ggR_rests_5, ggR_rests_7, ggR_rests_0, ggR_rests_1, ggR_rests_2, ggR_rests_3, ggR_rests_4, ggR_rests_6, ggR_rests_8, ggR_rests_9, ggR_rests_10, ggR_rests_11, ggR_rests_12, ggR_rests_13, ggR_rests_14, ggR_rests_15, ggR_rests_16, ggR_rests_17, ccR_rests_0_2, ccR_rests_0_1, ccR_rests_2_1, ccR_rests_4_1, ccR_rests_8_2, ccR_rests_8_1, ccR_rests_9_2, ccR_rests_9_1, ggR_familyHas_0, ggR_familyHas_1, ggR_familyHas_2, ggR_familyHas_3, ggR_familyHas_4, ggR_familyHas_5, ggR_familyHas_6, ggR_familyHas_7, ggR_familyHas_8, ccR_familyHas_2_1, ggR_childHas_0, ggR_childHas_1, ggR_childHas_2, ggR_childHas_3, uR_familyHas, uR_childHas, rR_of, eg, ng_0, pn_div, m2_1, l_12, s_13, Nat.reduceAdd, Nat.reduceSub, Nat.reduceMul, or_zero32, Nat.zero_div, am_kI_x, am_kV_x, am_kI_i, am_nI_i, am_kV_i, am_nV_i, ↓reduceIte, eq_self, if_true, if_false, c_in, c_tn, pn_add, pn_mul, pn_subc, pn_addm, c_le_t, c_le_f, c_lt_t, c_lt_f, c_eq_f, c_eqm, bi_z, bi_1, bi_b, bi_T, bi_F, ite_not, up_eq, up_ne, or_self, or_true, true_or, or_false, false_or, and_true, true_and, and_self, not_true_eq_false, not_false_eq_true, Bool.false_eq_true]
  · obtain ⟨n1, n2⟩ := ng_at hg h0
    rw [if_neg h0]
    by_cases hq : e / 2 < e
    · rw [if_pos hq]
      simp -implicitDefEqProofs (disch := (first | omega | assumption | exact am_isS_3 | exact am_isS_25 | exact am_isX_356 | exact am_isX_359)) only [ggR_rests_5, ggR_rests_7, ggR_rests_0, ggR_rests_1, ggR_rests_2, ggR_rests_3, ggR_rests_4, ggR_rests_6, ggR_rests_8, ggR_rests_9, ggR_rests_10, ggR_rests_11, ggR_rests_12, ggR_rests_13, ggR_rests_14, ggR_rests_15, ggR_rests_16, ggR_rests_17, ccR_rests_0_2, ccR_rests_0_1, ccR_rests_2_1, ccR_rests_4_1, ccR_rests_8_2, ccR_rests_8_1, ccR_rests_9_2, ccR_rests_9_1, ggR_familyHas_0, ggR_familyHas_1, ggR_familyHas_2, ggR_familyHas_3, ggR_familyHas_4, ggR_familyHas_5, ggR_familyHas_6, ggR_familyHas_7, ggR_familyHas_8, ccR_familyHas_2_1, ggR_childHas_0, ggR_childHas_1, ggR_childHas_2, ggR_childHas_3, uR_familyHas, uR_childHas, rR_of, eg, n1, n2, pn_div, m2_1, l_12, s_13, Nat.reduceAdd, Nat.reduceSub, Nat.reduceMul, or_zero32, am_kI_x, am_kV_x, am_kI_i, am_nI_i, am_kV_i, am_nV_i, ↓reduceIte, eq_self, if_true, if_false, c_in, c_tn, pn_add, pn_mul, pn_subc, pn_addm, c_le_t, c_le_f, c_lt_t, c_lt_f, c_eq_f, c_eqm, bi_z, bi_1, bi_b, bi_T, bi_F, ite_not, up_eq, up_ne, or_self, or_true, true_or, or_false, false_or, and_true, true_and, and_self, not_true_eq_false, not_false_eq_true, Bool.false_eq_true]
    · rw [if_neg hq]
      have : e = 0 := by omega
      subst this
      simp -implicitDefEqProofs (disch := (first | omega | assumption | exact am_isS_3 | exact am_isS_25 | exact am_isX_356 | exact am_isX_359)) only [ggR_rests_5, ggR_rests_7, ggR_rests_0, ggR_rests_1, ggR_rests_2, ggR_rests_3, ggR_rests_4, ggR_rests_6, ggR_rests_8, ggR_rests_9, ggR_rests_10, ggR_rests_11, ggR_rests_12, ggR_rests_13, ggR_rests_14, ggR_rests_15, ggR_rests_16, ggR_rests_17, ccR_rests_0_2, ccR_rests_0_1, ccR_rests_2_1, ccR_rests_4_1, ccR_rests_8_2, ccR_rests_8_1, ccR_rests_9_2, ccR_rests_9_1, ggR_familyHas_0, ggR_familyHas_1, ggR_familyHas_2, ggR_familyHas_3, ggR_familyHas_4, ggR_familyHas_5, ggR_familyHas_6, ggR_familyHas_7, ggR_familyHas_8, ccR_familyHas_2_1, ggR_childHas_0, ggR_childHas_1, ggR_childHas_2, ggR_childHas_3, uR_familyHas, uR_childHas, rR_of, eg, n1, n2, pn_div, m2_1, l_12, s_13, Nat.reduceAdd, Nat.reduceSub, Nat.reduceMul, or_zero32, Nat.zero_div, am_kI_x, am_kV_x, am_kI_i, am_nI_i, am_kV_i, am_nV_i, ↓reduceIte, eq_self, if_true, if_false, c_in, c_tn, pn_add, pn_mul, pn_subc, pn_addm, c_le_t, c_le_f, c_lt_t, c_lt_f, c_eq_f, c_eqm, bi_z, bi_1, bi_b, bi_T, bi_F, ite_not, up_eq, up_ne, or_self, or_true, true_or, or_false, false_or, and_true, true_and, and_self, not_true_eq_false, not_false_eq_true, Bool.false_eq_true]
theorem expN_lt {w v : Nat → Nat} {p : Nat → Bool} (hw : ∀ t, t < 9 → w t ≤ 9) (hv : ∀ t, t < 9 → v t ≤ 99) : expN w v p < 100000 := by
  have b2 := nsum_wv (p := p) hw hv
  unfold expN
  split
  · omega
  · exact Nat.lt_of_le_of_lt (Nat.div_le_self _ _) (by omega)
theorem T_rests (x : Int32) : Two qF_rests [.ref 0, .int x] qR_rests [.ref 373, .int x] (am_ctt 27) := by
  intro d hC hR J
  have J0 := J.thr (Int32.ofNat 0)
  obtain ⟨⟨N, G, R, okt, okc, okk, RL⟩, T, -⟩ := id J
  have hN := R.1
  have r3 := R.2.2.1
  have r4 := R.2.2.2.1
  have r12 := R.2.2.2.2.2.2.2.2.2.2.2.1
  rcases ch_cases hN x with ⟨c, hc, rfl⟩ | ⟨b1, b2⟩
  · have hc8 : c < 8 := by omega
    have c7 := r12 7 c (by omega) hc8
    have c3 := r12 3 c (by omega) hc8
    obtain ⟨o, ho, eo⟩ := (okc c hc).2.2.2.2.2.2.2.1
    obtain ⟨g, hg, eg⟩ := (okc c hc).2.2.2.1
    rw [eo] at c7
    rw [eg] at c3
    by_cases h1 : o = 1
    · subst h1
      refine ⟨hC, am_up hR 373 0 (Int32.ofNat 0), J0, rfl, Or.inl ⟨-1, rfl, up_eq rfl rfl, ?_, ?_⟩⟩
      · simp -implicitDefEqProofs (disch := (first | omega | assumption | exact am_isS_3 | exact am_isS_25 | exact am_isX_356 | exact am_isX_359)) only [uF_rests, ggF_rests_0, ggF_rests_1, ggF_rests_2, ccF_rests_0_1, ccF_rests_2_3, ccF_rests_2_2, ccF_rests_2_1, xF_needChild hN r4 hc, c7, am_kI_x, am_kV_x, am_kI_i, am_nI_i, am_kV_i, am_nV_i, ↓reduceIte, eq_self, if_true, if_false, c_in, c_tn, pn_add, pn_mul, pn_subc, pn_addm, c_le_t, c_le_f, c_lt_t, c_lt_f, c_eq_f, c_eqm, bi_z, bi_1, bi_b, bi_T, bi_F, ite_not, up_eq, up_ne, or_self, or_true, true_or, or_false, false_or, and_true, true_and, and_self, not_true_eq_false, not_false_eq_true, Bool.false_eq_true]
      · simp -implicitDefEqProofs (disch := (first | omega | assumption | exact am_isS_3 | exact am_isS_25 | exact am_isX_356 | exact am_isX_359)) only [uR_rests, ggR_rests_0, ggR_rests_1, ggR_rests_2, ggR_rests_3, ggR_rests_4, ggR_rests_6, ggR_rests_8, ggR_rests_9, ggR_rests_10, ggR_rests_11, ggR_rests_12, ggR_rests_13, ggR_rests_14, ggR_rests_15, ggR_rests_16, ggR_rests_17, ccR_rests_0_2, ccR_rests_0_1, ccR_rests_2_1, ccR_rests_4_1, ccR_rests_8_2, ccR_rests_8_1, ccR_rests_9_2, ccR_rests_9_1, rR_noChild, rR_isOpened, rR_throwsIf_f, up_o, r3, eo, am_kI_x, am_kV_x, am_kI_i, am_nI_i, am_kV_i, am_nV_i, ↓reduceIte, eq_self, if_true, if_false, c_in, c_tn, pn_add, pn_mul, pn_subc, pn_addm, c_le_t, c_le_f, c_lt_t, c_lt_f, c_eq_f, c_eqm, bi_z, bi_1, bi_b, bi_T, bi_F, ite_not, up_eq, up_ne, or_self, or_true, true_or, or_false, false_or, and_true, true_and, and_self, not_true_eq_false, not_false_eq_true, Bool.false_eq_true]
    · have h0 : o = 0 := by omega
      subst h0
      obtain ⟨n, B, hn, e1, e2, hB⟩ := bts_of T
      obtain ⟨w, hw⟩ := wt_nat okt
      obtain ⟨v, hv⟩ := wo_nat okt
      have tt : told (am_up hC 1 2 (Int32.ofNat 0)) (am_up (am_up hR 373 0 (Int32.ofNat 0)) 373 11 (Int32.ofNat 0)) B 0 := ⟨by omega, up_eq rfl rfl, up_eq rfl rfl, fun i hi => by rw [up_ne (by omega), up_ne (by omega), up_ne (by omega)]; exact hB i hi, fun i hi => by omega⟩
      have RC : RelS (am_up hC 1 2 (Int32.ofNat 0)) 3 (hR.2 374) N G := R.frame (fun p h1 h2 => up_o (by omega))
      have eW : (am_up (am_up hR 373 0 (Int32.ofNat 0)) 373 11 (Int32.ofNat 0)).2 374 = hR.2 374 := by rw [up_o (by omega), up_o (by omega)]
      have hwR : ∀ t, t < 9 → w t ≤ 9 ∧ wt ((am_up (am_up hR 373 0 (Int32.ofNat 0)) 373 11 (Int32.ofNat 0)).2 374) t = (Int32.ofNat (w t)) := by rw [eW]; exact hw
      have hvR : ∀ t, t < 9 → v t ≤ 99 ∧ (am_up (am_up hR 373 0 (Int32.ofNat 0)) 373 11 (Int32.ofNat 0)).2 374 (7 + 4 * t + 3) = (Int32.ofNat (v t)) := by rw [eW]; exact hv
      have ffC := fun d => xE_fitting RC tt d
      have ffR := fun d => rR_fitting tt d
      rw [eW] at ffR
      have exC := fun d => xE_expected RC hw hv (fitT (hR.2 374) B 0) d
      have exR := fun d => rR_expectOf hwR hvR (fitT (hR.2 374) B 0) d
      have le := expN_lt (p := fitT (hR.2 374) B 0) (fun t ht => (hw t ht).1) (fun t ht => (hv t ht).1)
      generalize fitT (hR.2 374) B 0 = p at ffC ffR exC exR le
      have rc := fun d h => xF_restingChoices (e := expN w v p) (g := g) le hg d h
      have rr := rR_rests_l (h := am_up (am_up hR 373 0 (Int32.ofNat 0)) 373 11 (Int32.ofNat 0)) hc8 le hg (by rw [eW]; exact eg) (d + 113)
      have JJ : J2 (am_up hC 1 2 (Int32.ofNat 0)) (am_up (am_up hR 373 0 (Int32.ofNat 0)) 373 11 (Int32.ofNat 0)) := J0.of (fun p _ _ _ _ _ _ h1 => up_o h1) (up_ne (by omega)) (up_ne (by omega)) (up_o (by omega)) (up_o (by omega)) (fun j _ => by rw [up_o (by omega)]) (up_o (by omega)) (up_o (by omega)) (up_o (by omega)) (fun i hi => up_ne (by omega))
      refine ⟨_, _, JJ, rfl, Or.inl ⟨rsN (expN w v p) g, rfl, by rw [up_ne (by omega)]; exact up_eq rfl rfl, ?_, ?_⟩⟩
      · simp -implicitDefEqProofs (disch := (first | omega | assumption | exact am_isS_3 | exact am_isS_25 | exact am_isX_356 | exact am_isX_359)) only [uF_rests, ggF_rests_0, ggF_rests_1, ggF_rests_2, ccF_rests_0_1, ccF_rests_2_3, ccF_rests_2_2, ccF_rests_2_1, xF_needChild hN r4 hc, c7, c3, ffC, exC, rc, am_kI_x, am_kV_x, am_kI_i, am_nI_i, am_kV_i, am_nV_i, ↓reduceIte, eq_self, if_true, if_false, c_in, c_tn, pn_add, pn_mul, pn_subc, pn_addm, c_le_t, c_le_f, c_lt_t, c_lt_f, c_eq_f, c_eqm, bi_z, bi_1, bi_b, bi_T, bi_F, ite_not, up_eq, up_ne, or_self, or_true, true_or, or_false, false_or, and_true, true_and, and_self, not_true_eq_false, not_false_eq_true, Bool.false_eq_true]
      · simp -implicitDefEqProofs (disch := (first | omega | assumption | exact am_isS_3 | exact am_isS_25 | exact am_isX_356 | exact am_isX_359)) only [uR_rests, ggR_rests_0, ggR_rests_1, ggR_rests_2, ggR_rests_3, ggR_rests_4, ggR_rests_6, ggR_rests_8, ggR_rests_9, ggR_rests_10, ggR_rests_11, ggR_rests_12, ggR_rests_13, ggR_rests_14, ggR_rests_15, ggR_rests_16, ggR_rests_17, ccR_rests_0_2, ccR_rests_0_1, ccR_rests_2_1, ccR_rests_4_1, ccR_rests_8_2, ccR_rests_8_1, ccR_rests_9_2, ccR_rests_9_1, ggR_expectOfAll_0, ccR_expectOfAll_0_2, ccR_expectOfAll_0_1, uR_expectOfAll, rR_noChild, rR_isOpened, rR_throwsIf_f, up_o, r3, eo, ffR, exR, am_kI_x, am_kV_x, am_kI_i, am_nI_i, am_kV_i, am_nV_i, ↓reduceIte, eq_self, if_true, if_false, c_in, c_tn, pn_add, pn_mul, pn_subc, pn_addm, c_le_t, c_le_f, c_lt_t, c_lt_f, c_eq_f, c_eqm, bi_z, bi_1, bi_b, bi_T, bi_F, ite_not, up_eq, up_ne, or_self, or_true, true_or, or_false, false_or, and_true, true_and, and_self, not_true_eq_false, not_false_eq_true, Bool.false_eq_true]
        exact rr
  · refine ⟨am_th hC, am_up (am_up hR 373 0 (Int32.ofNat 0)) 373 0 (Int32.ofNat 1), (J0.thr (Int32.ofNat 1)).th, rfl, Or.inr ⟨3, 1, (Int32.ofNat 0), rfl, by decide, up_eq rfl rfl, ?_, ?_⟩⟩
    · simp -implicitDefEqProofs (disch := (first | omega | assumption | exact am_isS_3 | exact am_isS_25 | exact am_isX_356 | exact am_isX_359)) only [uF_rests, ggF_rests_0, ggF_rests_1, ggF_rests_2, ccF_rests_0_1, ccF_rests_2_3, ccF_rests_2_2, ccF_rests_2_1, xF_needChild_x r4 b2, am_kI_x, am_kV_x, am_kI_i, am_nI_i, am_kV_i, am_nV_i, ↓reduceIte, eq_self, if_true, if_false, c_in, c_tn, pn_add, pn_mul, pn_subc, pn_addm, c_le_t, c_le_f, c_lt_t, c_lt_f, c_eq_f, c_eqm, bi_z, bi_1, bi_b, bi_T, bi_F, ite_not, up_eq, up_ne, or_self, or_true, true_or, or_false, false_or, and_true, true_and, and_self, not_true_eq_false, not_false_eq_true, Bool.false_eq_true]
    · simp -implicitDefEqProofs (disch := (first | omega | assumption | exact am_isS_3 | exact am_isS_25 | exact am_isX_356 | exact am_isX_359)) only [uR_rests, ggR_rests_0, ggR_rests_1, ggR_rests_2, ggR_rests_3, ggR_rests_4, ggR_rests_6, ggR_rests_8, ggR_rests_9, ggR_rests_10, ggR_rests_11, ggR_rests_12, ggR_rests_13, ggR_rests_14, ggR_rests_15, ggR_rests_16, ggR_rests_17, ccR_rests_0_2, ccR_rests_0_1, ccR_rests_2_1, ccR_rests_4_1, ccR_rests_8_2, ccR_rests_8_1, ccR_rests_9_2, ccR_rests_9_1, rR_noChild, rR_throwsIf_t, up_o, r3, b1, k_373, am_kI_x, am_kV_x, am_kI_i, am_nI_i, am_kV_i, am_nV_i, ↓reduceIte, eq_self, if_true, if_false, c_in, c_tn, pn_add, pn_mul, pn_subc, pn_addm, c_le_t, c_le_f, c_lt_t, c_lt_f, c_eq_f, c_eqm, bi_z, bi_1, bi_b, bi_T, bi_F, ite_not, up_eq, up_ne, or_self, or_true, true_or, or_false, false_or, and_true, true_and, and_self, not_true_eq_false, not_false_eq_true, Bool.false_eq_true]
