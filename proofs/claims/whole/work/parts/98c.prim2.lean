/-! more of what both readers do at a token -/
def Tk (B : Nat → Nat) (E a p : Nat) : Prop := p ≤ E ∧ nb B E p = stt B E a
theorem tk_st {B : Nat → Nat} {E a : Nat} : Tk B E a (stt B E a) := ⟨stt_le a, stt_nb a⟩
theorem tk_next {B : Nat → Nat} {E a : Nat} (h : stt B E a < E) : Tk B E (a + 1) (te B E (stt B E a)) := ⟨(te_at h).2, (stt_S h).symm⟩
def dte (B : Nat → Nat) (E a : Nat) : Nat := rn isDg B E (stt B E a)
theorem tk_word {B : Nat → Nat} {E a w : Nat} (hB : ∀ i, i < E → B i < 256) (hw : w < 23) (hq : cdx B E a = (Int32.ofNat (1000 + w))) : stt B E a < E ∧ Tk B E (a + 1) (lte B E a) := by
  rcases cdx_cases (a := a) hB with ⟨-, q⟩ | ⟨hs, ⟨q1, q2, q3⟩ | ⟨q1, q2, q3⟩ | ⟨q1, q2, q3, q4⟩⟩
  · rw [q] at hq; exact absurd hq (m2_ne (by omega))
  · rcases q3 with ⟨-, v, v1, -, v3⟩ | ⟨-, v3⟩
    · rw [v3] at hq
      have := (pn_eq (by omega) (by omega)).mp hq
      omega
    · rw [v3] at hq; exact absurd hq (ne_m1 (by omega))
  · refine ⟨hs, ?_⟩
    have : lte B E a = te B E (stt B E a) := q2.symm
    rw [this]
    exact tk_next hs
  · rw [q4] at hq
    have := (pn_eq (by have := hB _ hs; omega) (by omega)).mp hq
    omega
theorem rR_lettersA {h : am_H} {B : Nat → Nat} {E a p : Nat} (T : rtp h B E) (K : Tk B E a p) (b d : Nat) : am_cl (d + 3) qR_letters [.ref 373] (rs h p b) = some (.inl none, rs h (lte B E a) (stt B E a)) := by
  rw [rR_letters T K.1 b d, K.2]
  rfl
theorem rR_blanksA {h : am_H} {B : Nat → Nat} {E a p : Nat} (T : rtp h B E) (K : Tk B E a p) (b d : Nat) : am_cl (d + 2) qR_blanks [.ref 373] (rs h p b) = some (.inl none, rs h (stt B E a) (stt B E a)) := by
  rw [rR_blanks T b d (E - p) p (by have := K.1; omega), K.2]
theorem rR_passes_t {h : am_H} {B : Nat → Nat} {E a p id w : Nat} (T : rtp h B E) (K : Tk B E a p) (hw : wdOK id w) (hq : cdx B E a = (Int32.ofNat (1000 + w))) (b d : Nat) : am_cl (d + 4) qR_passes [.ref 373, .ref ((1000 + id))] (rs h p b) = some (.inl (some ((Int32.ofNat 1))), rs h (lte B E a) (stt B E a)) := by
  have el := fun d => rR_lettersA T K b d
  have ew := fun d => rR_isWord (a := a) T hw d
  simp only [bi_t hq] at ew
  simp -implicitDefEqProofs (disch := (first | omega | assumption | exact am_isS_3 | exact am_isS_25 | exact am_isX_356 | exact am_isX_359)) only [uR_passes, ggR_passes_0, ggR_passes_1, ggR_passes_2, ccR_passes_0_2, ccR_passes_0_1, el, ew, am_kI_x, am_kV_x, am_kI_i, am_nI_i, am_kV_i, am_nV_i, ↓reduceIte, eq_self, if_true, if_false, c_in, c_tn, pn_add, pn_mul, pn_subc, pn_addm, c_le_t, c_le_f, c_lt_t, c_lt_f, c_eq_f, c_eqm, bi_z, bi_1, bi_b, bi_T, bi_F, ite_not, up_eq, up_ne, or_self, or_true, true_or, or_false, false_or, and_true, true_and, and_self, not_true_eq_false, not_false_eq_true, Bool.false_eq_true]
theorem rR_passes_f {h : am_H} {B : Nat → Nat} {E a p id w : Nat} (T : rtp h B E) (K : Tk B E a p) (hw : wdOK id w) (hq : ¬ cdx B E a = (Int32.ofNat (1000 + w))) (b d : Nat) : am_cl (d + 4) qR_passes [.ref 373, .ref ((1000 + id))] (rs h p b) = some (.inl (some ((Int32.ofNat 0))), rs h (stt B E a) (stt B E a)) := by
  have el := fun d => rR_lettersA T K b d
  have ew := fun d => rR_isWord (a := a) T hw d
  simp only [bi_f hq] at ew
  simp -implicitDefEqProofs (disch := (first | omega | assumption | exact am_isS_3 | exact am_isS_25 | exact am_isX_356 | exact am_isX_359)) only [uR_passes, ggR_passes_0, ggR_passes_1, ggR_passes_2, ccR_passes_0_2, ccR_passes_0_1, el, ew, rs_b, rs_10, am_kI_x, am_kV_x, am_kI_i, am_nI_i, am_kV_i, am_nV_i, ↓reduceIte, eq_self, if_true, if_false, c_in, c_tn, pn_add, pn_mul, pn_subc, pn_addm, c_le_t, c_le_f, c_lt_t, c_lt_f, c_eq_f, c_eqm, bi_z, bi_1, bi_b, bi_T, bi_F, ite_not, up_eq, up_ne, or_self, or_true, true_or, or_false, false_or, and_true, true_and, and_self, not_true_eq_false, not_false_eq_true, Bool.false_eq_true]
theorem sg_iff {B : Nat → Nat} {E a c : Nat} (hB : ∀ i, i < E → B i < 256) (hc : c < 128) (c1 : isLt c = false) (c2 : isDg c = false) : (stt B E a < E ∧ c ≤ B (stt B E a) ∧ B (stt B E a) ≤ c) ↔ cdx B E a = (Int32.ofNat (1200 + c)) := by
  constructor
  · rintro ⟨h1, h2, h3⟩
    have hc : B (stt B E a) = c := by omega
    unfold cdx cd
    rw [if_pos h1, hc, if_neg (by rw [c2]; decide), if_neg (by rw [c1]; decide)]
  · intro hq
    rcases cdx_cases (a := a) hB with ⟨-, q⟩ | ⟨hs, ⟨q1, q2, q3⟩ | ⟨q1, q2, q3⟩ | ⟨q1, q2, q3, q4⟩⟩
    · rw [q] at hq; exact absurd hq (m2_ne (by omega))
    · rcases q3 with ⟨-, v, v1, -, v3⟩ | ⟨-, v3⟩
      · rw [v3] at hq
        have := (pn_eq (by omega) (by omega)).mp hq
        omega
      · rw [v3] at hq; exact absurd hq (ne_m1 (by omega))
    · rcases q3 with ⟨-, h105, v⟩ | ⟨-, -, v⟩ | ⟨-, ⟨f, f1, v⟩ | v⟩
      · rw [v] at hq
        have := (pn_eq (by have := hB _ hs; omega) (by omega)).mp hq
        omega
      · rw [v] at hq; exact absurd hq (ne_m1 (by omega))
      · rw [v] at hq
        have := (pn_eq (by omega) (by omega)).mp hq
        omega
      · rw [v] at hq; exact absurd hq (ne_m1 (by omega))
    · rw [q4] at hq
      have := (pn_eq (by have := hB _ hs; omega) (by omega)).mp hq
      exact ⟨hs, by omega, by omega⟩
theorem tk_sign {B : Nat → Nat} {E a c : Nat} (hB : ∀ i, i < E → B i < 256) (hc : c < 128) (c1 : isLt c = false) (c2 : isDg c = false) (hq : cdx B E a = (Int32.ofNat (1200 + c))) : stt B E a < E ∧ Tk B E (a + 1) (stt B E a + 1) := by
  obtain ⟨h1, h2, h3⟩ := (sg_iff hB hc c1 c2).mpr hq
  have hcc : B (stt B E a) = c := by omega
  have : te B E (stt B E a) = stt B E a + 1 := by unfold te; rw [hcc, c1, c2]; rfl
  refine ⟨h1, ?_⟩
  rw [← this]
  exact tk_next h1
theorem rR_sign_t {h : am_H} {B : Nat → Nat} {E a p c : Nat} (T : rtp h B E) (K : Tk B E a p) (hc : c < 128) (c1 : isLt c = false) (c2 : isDg c = false) (hq : cdx B E a = (Int32.ofNat (1200 + c))) (b d : Nat) : am_cl (d + 3) qR_sign [.ref 373, .int (Int32.ofNat c)] (rs h p b) = some (.inl (some ((Int32.ofNat 1))), rs h (stt B E a + 1) (stt B E a)) := by
  have el := fun d => rR_blanksA T K b d
  have ea := fun d => rR_isAt (b := stt B E a) T (p := stt B E a) (lo := c) (hi := c) (stt_le a) hc hc d
  simp only [bi_t ((sg_iff (hB_of T) hc c1 c2).mpr hq)] at ea
  simp -implicitDefEqProofs (disch := (first | omega | assumption | exact am_isS_3 | exact am_isS_25 | exact am_isX_356 | exact am_isX_359)) only [uR_sign, ggR_sign_0, ggR_sign_1, ggR_sign_2, ccR_sign_0_2, ccR_sign_0_1, el, ea, rs_p, rs_10, am_kI_x, am_kV_x, am_kI_i, am_nI_i, am_kV_i, am_nV_i, ↓reduceIte, eq_self, if_true, if_false, c_in, c_tn, pn_add, pn_mul, pn_subc, pn_addm, c_le_t, c_le_f, c_lt_t, c_lt_f, c_eq_f, c_eqm, bi_z, bi_1, bi_b, bi_T, bi_F, ite_not, up_eq, up_ne, or_self, or_true, true_or, or_false, false_or, and_true, true_and, and_self, not_true_eq_false, not_false_eq_true, Bool.false_eq_true]
theorem rR_sign_f {h : am_H} {B : Nat → Nat} {E a p c : Nat} (T : rtp h B E) (K : Tk B E a p) (hc : c < 128) (c1 : isLt c = false) (c2 : isDg c = false) (hq : ¬ cdx B E a = (Int32.ofNat (1200 + c))) (b d : Nat) : am_cl (d + 3) qR_sign [.ref 373, .int (Int32.ofNat c)] (rs h p b) = some (.inl (some ((Int32.ofNat 0))), rs h (stt B E a) (stt B E a)) := by
  have el := fun d => rR_blanksA T K b d
  have ea := fun d => rR_isAt (b := stt B E a) T (p := stt B E a) (lo := c) (hi := c) (stt_le a) hc hc d
  simp only [bi_f (fun z => hq ((sg_iff (hB_of T) hc c1 c2).mp z))] at ea
  simp -implicitDefEqProofs (disch := (first | omega | assumption | exact am_isS_3 | exact am_isS_25 | exact am_isX_356 | exact am_isX_359)) only [uR_sign, ggR_sign_0, ggR_sign_1, ggR_sign_2, ccR_sign_0_2, ccR_sign_0_1, el, ea, am_kI_x, am_kV_x, am_kI_i, am_nI_i, am_kV_i, am_nV_i, ↓reduceIte, eq_self, if_true, if_false, c_in, c_tn, pn_add, pn_mul, pn_subc, pn_addm, c_le_t, c_le_f, c_lt_t, c_lt_f, c_eq_f, c_eqm, bi_z, bi_1, bi_b, bi_T, bi_F, ite_not, up_eq, up_ne, or_self, or_true, true_or, or_false, false_or, and_true, true_and, and_self, not_true_eq_false, not_false_eq_true, Bool.false_eq_true]
theorem neg2 : ((-2 : Int32) < (Int32.ofNat 0)) = True := by decide
theorem nvI_cases {B : Nat → Nat} {E a : Nat} (hB : ∀ i, i < E → B i < 256) (m : Int32) : nvI B E a m = -1 ∨ ∃ v, v < 1000 ∧ nvI B E a m = (Int32.ofNat v) ∧ cdx B E a = (Int32.ofNat v) ∧ ¬ m < (Int32.ofNat v) ∧ stt B E a < E ∧ Tk B E (a + 1) (dte B E a) := by
  unfold nvI
  by_cases h1 : cdx B E a < (Int32.ofNat 0)
  · rw [if_pos h1]; exact Or.inl rfl
  · rw [if_neg h1]
    by_cases h2 : (Int32.ofNat 1000) ≤ cdx B E a
    · rw [if_pos h2]; exact Or.inl rfl
    · rw [if_neg h2]
      by_cases h3 : m < cdx B E a
      · rw [if_pos h3]; exact Or.inl rfl
      · rw [if_neg h3]
        have big : ∀ x, cdx B E a = (Int32.ofNat x) → 1000 ≤ x → x < 3000 → False := fun x e x1 x2 => by
          rw [e, pn_le (by omega) (by omega)] at h2
          omega
        rcases cdx_cases (a := a) hB with ⟨-, q⟩ | ⟨hs, ⟨q1, q2, q3⟩ | ⟨q1, q2, q3⟩ | ⟨q1, q2, q3, q4⟩⟩
        · rw [q, neg2] at h1; exact absurd trivial h1
        · rcases q3 with ⟨-, v, v1, -, v3⟩ | ⟨-, v3⟩
          · refine Or.inr ⟨v, v1, v3, v3, by rw [v3] at h3; exact h3, hs, ?_⟩
            have : dte B E a = te B E (stt B E a) := q2.symm
            rw [this]
            exact tk_next hs
          · exact Or.inl v3
        · rcases q3 with ⟨-, -, v⟩ | ⟨-, -, v⟩ | ⟨-, ⟨f, f1, v⟩ | v⟩
          · exact (big _ v (by omega) (by have := hB _ hs; omega)).elim
          · exact Or.inl v
          · exact (big _ v (by omega) (by omega)).elim
          · exact Or.inl v
        · exact (big _ q4 (by omega) (by have := hB _ hs; omega)).elim
theorem rR_number {h : am_H} {B : Nat → Nat} {E a p : Nat} (T : rtp h B E) (K : Tk B E a p) (m : Int32) (b d : Nat) : am_cl (d + 3) qR_number [.ref 373, .int (Int32.ofNat 0), .int m] (rs h p b) = some (.inl (some (nvI B E a m)), rs h (dte B E a) (stt B E a)) := by
  have hE := T.1
  have hB := hB_of T
  have el := fun d => rR_blanksA T K b d
  have sE := stt_le (B := B) (E := E) a
  obtain ⟨d1, d2, d3, d4⟩ := rn_at (q := isDg) (B := B) sE
  have cc := cdx_cases (a := a) hB
  have edte : dte B E a = rn isDg B E (stt B E a) := rfl
  unfold nvI
  generalize cdx B E a = C at *
  generalize stt B E a = s at *
  rw [← edte] at d1 d2 d3 d4
  rw [edte]
  have l : ∀ k j, s + j + k = dte B E a → am_go (am_cl (d + 2)) qR_number 1 [.ref 373, .int (Int32.ofNat 0), .int m, .int (Int32.ofNat (numV B s (min j 3)))] [] (rs h (s + j) s) = am_go (am_cl (d + 2)) qR_number 6 [.ref 373, .int (Int32.ofNat 0), .int m, .int (Int32.ofNat (numV B s (min (dte B E a - s) 3)))] [] (rs h (dte B E a) s) := by
    intro k
    induction k with
    | zero =>
      intro j hj
      have hj2 : s + j = dte B E a := by omega
      have ea := fun d => rR_isAt (b := s) T (p := s + j) (lo := 48) (hi := 57) (by omega) (by omega) (by omega) d
      simp only [bi_f (show ¬ (s + j < E ∧ 48 ≤ B (s + j) ∧ B (s + j) ≤ 57) from fun z => d4 (by omega) (by rw [← hj2]; exact decide_eq_true z.2))] at ea
      rw [ggR_number_1]
      simp -implicitDefEqProofs (disch := (first | omega | assumption | exact am_isS_3 | exact am_isS_25 | exact am_isX_356 | exact am_isX_359)) only [ggR_number_0, ggR_number_2, ggR_number_3, ggR_number_4, ggR_number_5, ggR_number_7, ggR_number_8, ggR_number_9, ggR_number_10, ggR_number_11, ggR_number_12, ccR_number_0_1, ccR_number_1_1, ea, am_kI_x, am_kV_x, am_kI_i, am_nI_i, am_kV_i, am_nV_i, ↓reduceIte, eq_self, if_true, if_false, c_in, c_tn, pn_add, pn_mul, pn_subc, pn_addm, c_le_t, c_le_f, c_lt_t, c_lt_f, c_eq_f, c_eqm, bi_z, bi_1, bi_b, bi_T, bi_F, ite_not, up_eq, up_ne, or_self, or_true, true_or, or_false, false_or, and_true, true_and, and_self, not_true_eq_false, not_false_eq_true, Bool.false_eq_true]
      rw [show dte B E a - s = j by omega, hj2]
    | succ k ih =>
      intro j hj
      have hd := of_decide_eq_true (d3 (s + j) (by omega) (by omega))
      have ea := fun d => rR_isAt (b := s) T (p := s + j) (lo := 48) (hi := 57) (by omega) (by omega) (by omega) d
      simp only [bi_t (show (s + j < E ∧ 48 ≤ B (s + j) ∧ B (s + j) ≤ 57) from ⟨by omega, hd.1, hd.2⟩)] at ea
      have ih := ih (j + 1) (by omega)
      obtain ⟨b1, b2⟩ := T.2.2 (s + j) (by omega)
      have sj : ((Int32.ofNat (B (s + j))) : Int32).toInt8.toInt32 = (Int32.ofNat (B (s + j))) := by
        rcases sbt_at b1 with q | q
        · exact q.2
        · omega
      rw [sj] at b2
      have eB : (rs h (s + j) s).2 379 (s + j) = (Int32.ofNat (B (s + j))) := by rw [rs_o (by omega)]; exact b2
      have esj : s + j - s = j := by omega
      have easc : s + j + 1 = s + (j + 1) := by omega
      rw [← ih, ggR_number_1]
      by_cases h3 : 3 ≤ j
      · have e3 : min j 3 = 3 := by omega
        have e4 : min (j + 1) 3 = 3 := by omega
        rw [e3, e4]
        simp -implicitDefEqProofs (disch := (first | omega | assumption | exact am_isS_3 | exact am_isS_25 | exact am_isX_356 | exact am_isX_359)) only [ggR_number_0, ggR_number_2, ggR_number_3, ggR_number_4, ggR_number_5, ggR_number_7, ggR_number_8, ggR_number_9, ggR_number_10, ggR_number_11, ggR_number_12, ccR_number_0_1, ccR_number_1_1, ea, rs_p, rs_b, esj, rs_10, easc, am_kI_x, am_kV_x, am_kI_i, am_nI_i, am_kV_i, am_nV_i, ↓reduceIte, eq_self, if_true, if_false, c_in, c_tn, pn_add, pn_mul, pn_subc, pn_addm, c_le_t, c_le_f, c_lt_t, c_lt_f, c_eq_f, c_eqm, bi_z, bi_1, bi_b, bi_T, bi_F, ite_not, up_eq, up_ne, or_self, or_true, true_or, or_false, false_or, and_true, true_and, and_self, not_true_eq_false, not_false_eq_true, Bool.false_eq_true]
      · have e3 : min j 3 = j := by omega
        have e4 : min (j + 1) 3 = j + 1 := by omega
        have nl := numV_lt (B := B) (p := s) j (fun i hi => d3 (s + i) (by omega) (by omega))
        have pj : 10 ^ j ≤ 10 ^ 3 := Nat.pow_le_pow_right (by omega) (by omega)
        have en : 10 * numV B s j + B (s + j) - 48 = numV B s (j + 1) := by
          show _ = 10 * numV B s j + (B (s + j) - 48)
          omega
        rw [e3, e4]
        simp -implicitDefEqProofs (disch := (first | omega | assumption | exact am_isS_3 | exact am_isS_25 | exact am_isX_356 | exact am_isX_359)) only [ggR_number_0, ggR_number_2, ggR_number_3, ggR_number_4, ggR_number_5, ggR_number_7, ggR_number_8, ggR_number_9, ggR_number_10, ggR_number_11, ggR_number_12, ccR_number_0_1, ccR_number_1_1, ea, rs_p, rs_b, esj, eB, en, rs_10, easc, am_kI_x, am_kV_x, am_kI_i, am_nI_i, am_kV_i, am_nV_i, ↓reduceIte, eq_self, if_true, if_false, c_in, c_tn, pn_add, pn_mul, pn_subc, pn_addm, c_le_t, c_le_f, c_lt_t, c_lt_f, c_eq_f, c_eqm, bi_z, bi_1, bi_b, bi_T, bi_F, ite_not, up_eq, up_ne, or_self, or_true, true_or, or_false, false_or, and_true, true_and, and_self, not_true_eq_false, not_false_eq_true, Bool.false_eq_true]
  have l0 := l (dte B E a - s) 0 (by omega)
  have l0 : am_go (am_cl (d + 2)) qR_number 1 [.ref 373, .int (Int32.ofNat 0), .int m, .int (Int32.ofNat 0)] [] (rs h s s) = _ := l0
  have fin : am_go (am_cl (d + 2)) qR_number 6 [.ref 373, .int (Int32.ofNat 0), .int m, .int (Int32.ofNat (numV B s (min (dte B E a - s) 3)))] [] (rs h (dte B E a) s) = some (.inl (some (if C < (Int32.ofNat 0) then -1 else if (Int32.ofNat 1000) ≤ C then -1 else if m < C then -1 else C)), rs h (dte B E a) s) := by
    have nodig : dte B E a = s → (C < (Int32.ofNat 0) ∨ (Int32.ofNat 1000) ≤ C) → am_go (am_cl (d + 2)) qR_number 6 [.ref 373, .int (Int32.ofNat 0), .int m, .int (Int32.ofNat (numV B s (min (dte B E a - s) 3)))] [] (rs h (dte B E a) s) = some (.inl (some (if C < (Int32.ofNat 0) then -1 else if (Int32.ofNat 1000) ≤ C then -1 else if m < C then -1 else C)), rs h (dte B E a) s) := fun e1 e2 => by
      have e3 : (if C < (Int32.ofNat 0) then (-1 : Int32) else if (Int32.ofNat 1000) ≤ C then -1 else if m < C then -1 else C) = -1 := by
        rcases e2 with q | q
        · rw [if_pos q]
        · by_cases w : C < (Int32.ofNat 0)
          · rw [if_pos w]
          · rw [if_neg w, if_pos q]
      rw [e3, e1]
      simp -implicitDefEqProofs (disch := (first | omega | assumption | exact am_isS_3 | exact am_isS_25 | exact am_isX_356 | exact am_isX_359)) only [ggR_number_0, ggR_number_2, ggR_number_3, ggR_number_4, ggR_number_5, ggR_number_6, ggR_number_7, ggR_number_8, ggR_number_9, ggR_number_10, ggR_number_11, ggR_number_12, ccR_number_0_1, ccR_number_1_1, rs_p, rs_b, am_kI_x, am_kV_x, am_kI_i, am_nI_i, am_kV_i, am_nV_i, ↓reduceIte, eq_self, if_true, if_false, c_in, c_tn, pn_add, pn_mul, pn_subc, pn_addm, c_le_t, c_le_f, c_lt_t, c_lt_f, c_eq_f, c_eqm, bi_z, bi_1, bi_b, bi_T, bi_F, ite_not, up_eq, up_ne, or_self, or_true, true_or, or_false, false_or, and_true, true_and, and_self, not_true_eq_false, not_false_eq_true, Bool.false_eq_true]
    have big : ∀ x, C = (Int32.ofNat x) → 1000 ≤ x → x < 3000 → (Int32.ofNat 1000) ≤ C := fun x e x1 x2 => by rw [e, pn_le (by omega) (by omega)]; exact x1
    have nolt : isDg (B s) = false → dte B E a = s := fun z => by rw [edte]; exact rn_no (fun w => by rw [z] at w; exact absurd w.2 (by decide))
    rcases cc with ⟨q1, q⟩ | ⟨hs, ⟨q1, q2, q3⟩ | ⟨q1, q2, q3⟩ | ⟨q1, q2, q3, q4⟩⟩
    · exact nodig (by rw [edte]; exact rn_no (by omega)) (Or.inl (by rw [q, neg2]; trivial))
    · have e2 : te B E s = dte B E a := q2.trans edte.symm
      rw [e2] at q3
      have t := (te_at (B := B) hs).1
      rw [e2] at t
      rcases q3 with ⟨hl, v, v1, v2, v3⟩ | ⟨hl, v3⟩
      · have em : min (dte B E a - s) 3 = dte B E a - s := by omega
        have e0 : ¬ (Int32.ofNat v) < (Int32.ofNat 0) := by rw [pn_lt (by omega) (by omega)]; omega
        have e1 : ¬ (Int32.ofNat 1000) ≤ (Int32.ofNat v) := by rw [pn_le (by omega) (by omega)]; omega
        rw [em, ← v2, v3, if_neg e0, if_neg e1]
        by_cases hm : m < (Int32.ofNat v)
        · have hm' : ¬ (Int32.ofNat v) ≤ m := by rw [Int32.lt_iff_toInt_lt] at hm; rw [Int32.le_iff_toInt_le]; omega
          rw [if_pos hm]
          simp -implicitDefEqProofs (disch := (first | omega | assumption | exact am_isS_3 | exact am_isS_25 | exact am_isX_356 | exact am_isX_359)) only [ggR_number_0, ggR_number_2, ggR_number_3, ggR_number_4, ggR_number_5, ggR_number_6, ggR_number_7, ggR_number_8, ggR_number_9, ggR_number_10, ggR_number_11, ggR_number_12, ccR_number_0_1, ccR_number_1_1, rs_p, rs_b, hm', am_kI_x, am_kV_x, am_kI_i, am_nI_i, am_kV_i, am_nV_i, ↓reduceIte, eq_self, if_true, if_false, c_in, c_tn, pn_add, pn_mul, pn_subc, pn_addm, c_le_t, c_le_f, c_lt_t, c_lt_f, c_eq_f, c_eqm, bi_z, bi_1, bi_b, bi_T, bi_F, ite_not, up_eq, up_ne, or_self, or_true, true_or, or_false, false_or, and_true, true_and, and_self, not_true_eq_false, not_false_eq_true, Bool.false_eq_true]
        · have hm' : (Int32.ofNat v) ≤ m := by rw [Int32.lt_iff_toInt_lt] at hm; rw [Int32.le_iff_toInt_le]; omega
          rw [if_neg hm]
          simp -implicitDefEqProofs (disch := (first | omega | assumption | exact am_isS_3 | exact am_isS_25 | exact am_isX_356 | exact am_isX_359)) only [ggR_number_0, ggR_number_2, ggR_number_3, ggR_number_4, ggR_number_5, ggR_number_6, ggR_number_7, ggR_number_8, ggR_number_9, ggR_number_10, ggR_number_11, ggR_number_12, ccR_number_0_1, ccR_number_1_1, rs_p, rs_b, hm', am_kI_x, am_kV_x, am_kI_i, am_nI_i, am_kV_i, am_nV_i, ↓reduceIte, eq_self, if_true, if_false, c_in, c_tn, pn_add, pn_mul, pn_subc, pn_addm, c_le_t, c_le_f, c_lt_t, c_lt_f, c_eq_f, c_eqm, bi_z, bi_1, bi_b, bi_T, bi_F, ite_not, up_eq, up_ne, or_self, or_true, true_or, or_false, false_or, and_true, true_and, and_self, not_true_eq_false, not_false_eq_true, Bool.false_eq_true]
      · rw [v3, if_pos (by decide)]
        simp -implicitDefEqProofs (disch := (first | omega | assumption | exact am_isS_3 | exact am_isS_25 | exact am_isX_356 | exact am_isX_359)) only [ggR_number_0, ggR_number_2, ggR_number_3, ggR_number_4, ggR_number_5, ggR_number_6, ggR_number_7, ggR_number_8, ggR_number_9, ggR_number_10, ggR_number_11, ggR_number_12, ccR_number_0_1, ccR_number_1_1, rs_p, rs_b, am_kI_x, am_kV_x, am_kI_i, am_nI_i, am_kV_i, am_nV_i, ↓reduceIte, eq_self, if_true, if_false, c_in, c_tn, pn_add, pn_mul, pn_subc, pn_addm, c_le_t, c_le_f, c_lt_t, c_lt_f, c_eq_f, c_eqm, bi_z, bi_1, bi_b, bi_T, bi_F, ite_not, up_eq, up_ne, or_self, or_true, true_or, or_false, false_or, and_true, true_and, and_self, not_true_eq_false, not_false_eq_true, Bool.false_eq_true]
    · have := nolt (lt_dg q1)
      refine nodig this ?_
      rcases q3 with ⟨-, -, v⟩ | ⟨-, -, v⟩ | ⟨-, ⟨f, f1, v⟩ | v⟩
      · exact Or.inr (big _ v (by omega) (by have := hB _ hs; omega))
      · exact Or.inl (by rw [v]; decide)
      · exact Or.inr (big _ v (by omega) (by omega))
      · exact Or.inl (by rw [v]; decide)
    · exact nodig (nolt q1) (Or.inr (big _ q4 (by omega) (by have := hB _ hs; omega)))
  rw [← edte]
  rw [← fin, ← l0]
  simp -implicitDefEqProofs (disch := (first | omega | assumption | exact am_isS_3 | exact am_isS_25 | exact am_isX_356 | exact am_isX_359)) only [uR_number, ggR_number_0, ggR_number_2, ggR_number_3, ggR_number_4, ggR_number_5, ggR_number_6, ggR_number_7, ggR_number_8, ggR_number_9, ggR_number_10, ggR_number_11, ggR_number_12, ccR_number_0_1, ccR_number_1_1, el, am_kI_x, am_kV_x, am_kI_i, am_nI_i, am_kV_i, am_nV_i, ↓reduceIte, eq_self, if_true, if_false, c_in, c_tn, pn_add, pn_mul, pn_subc, pn_addm, c_le_t, c_le_f, c_lt_t, c_lt_f, c_eq_f, c_eqm, bi_z, bi_1, bi_b, bi_T, bi_F, ite_not, up_eq, up_ne, or_self, or_true, true_or, or_false, false_or, and_true, true_and, and_self, not_true_eq_false, not_false_eq_true, Bool.false_eq_true]
theorem sub_all : (List.range 1100).all (fun x => decide (Int32.ofNat x - Int32.ofNat 1100 < Int32.ofNat 0)) = true := by decide +kernel
theorem sub_1100 {x : Nat} (h : x < 1100) : ((Int32.ofNat x) - (Int32.ofNat 1100) < (Int32.ofNat 0)) = True := eq_true (of_decide_eq_true (List.all_eq_true.mp sub_all x (List.mem_range.mpr h)))
theorem sub_m1 : ((-1 : Int32) - (Int32.ofNat 1100) < (Int32.ofNat 0)) = True := by decide
theorem sub_m2 : ((-2 : Int32) - (Int32.ofNat 1100) < (Int32.ofNat 0)) = True := by decide
theorem ltI_cases {B : Nat → Nat} {E a : Nat} (hB : ∀ i, i < E → B i < 256) : ltI B E a = -1 ∧ ¬ (lte B E a - stt B E a = 1 ∧ 97 ≤ B (stt B E a) ∧ B (stt B E a) ≤ 104) ∨ ∃ t, t < 8 ∧ ltI B E a = (Int32.ofNat t) ∧ stt B E a < E ∧ Tk B E (a + 1) (lte B E a) ∧ lte B E a - stt B E a = 1 ∧ B (stt B E a) = 97 + t := by
  have notl : isLt (B (stt B E a)) = false → lte B E a = stt B E a := fun z => rn_no (fun w => by rw [z] at w; exact absurd w.2 (by decide))
  unfold ltI
  rcases cdx_cases (a := a) hB with ⟨q1, q⟩ | ⟨hs, ⟨q1, q2, q3⟩ | ⟨q1, q2, q3⟩ | ⟨q1, q2, q3, q4⟩⟩
  · refine Or.inl ⟨by rw [q, if_pos (by rw [sub_m2]; trivial)], fun z => ?_⟩
    have : lte B E a = stt B E a := rn_no (by omega)
    omega
  · have h2 : isLt (B (stt B E a)) = false := by
      cases hh : isLt (B (stt B E a)) with
      | false => rfl
      | true => rw [lt_dg hh] at q1; exact absurd q1 (by decide)
    refine Or.inl ⟨?_, fun z => by have := notl h2; omega⟩
    rcases q3 with ⟨-, v, v1, -, v3⟩ | ⟨-, v3⟩
    · rw [v3, if_pos (by rw [sub_1100 (by omega)]; trivial)]
    · rw [v3, if_pos (by rw [sub_m1]; trivial)]
  · have el : te B E (stt B E a) = lte B E a := q2
    have hb := of_decide_eq_true q1
    have tn := tk_next hs
    rw [el] at q3 tn
    rcases q3 with ⟨c1, c2, v⟩ | ⟨c1, c2, v⟩ | ⟨c1, ⟨f, f1, v⟩ | v⟩
    · refine Or.inr ⟨B (stt B E a) - 97, by omega, ?_, hs, tn, c1, by omega⟩
      rw [v, pn_subc (by omega), show 1100 + (B (stt B E a) - 97) - 1100 = B (stt B E a) - 97 by omega, if_neg (by rw [pn_lt (by omega) (by omega)]; omega), if_neg (by rw [pn_le (by omega) (by omega)]; omega)]
    · exact Or.inl ⟨by rw [v, if_pos (by rw [sub_m1]; trivial)], fun z => c2 (by omega)⟩
    · exact Or.inl ⟨by rw [v, if_pos (by rw [sub_1100 (by omega)]; trivial)], fun z => c1 z.1⟩
    · exact Or.inl ⟨by rw [v, if_pos (by rw [sub_m1]; trivial)], fun z => c1 z.1⟩
  · refine Or.inl ⟨?_, fun z => by have := notl q2; omega⟩
    have := hB _ hs
    rw [q4, pn_subc (by omega), if_neg (by rw [pn_lt (by omega) (by omega)]; omega), if_pos (by rw [pn_le (by omega) (by omega)]; omega)]
theorem rR_letterTold {h : am_H} {B : Nat → Nat} {E a p : Nat} (T : rtp h B E) (K : Tk B E a p) (b d : Nat) : am_cl (d + 4) qR_letterTold [.ref 373] (rs h p b) = some (.inl (some (ltI B E a)), rs h (lte B E a) (stt B E a)) := by
  have hE := T.1
  have hB := hB_of T
  have el := fun d => rR_lettersA T K b d
  obtain ⟨l1, l2⟩ := lte_le (B := B) (E := E) (a := a)
  rcases ltI_cases (a := a) hB with ⟨q, hn⟩ | ⟨t, ht, q, hs, -, hl, hb⟩
  · rw [q]
    by_cases h1 : lte B E a - stt B E a = 1
    · have hs : stt B E a < E := by omega
      obtain ⟨b1, b2⟩ := T.2.2 (stt B E a) (by omega)
      have eB : (rs h (lte B E a) (stt B E a)).2 379 (stt B E a) = ((Int32.ofNat (B (stt B E a)))).toInt8.toInt32 := by rw [rs_o (by omega)]; exact b2
      have lw := of_decide_eq_true ((rn_at (q := isLt) (B := B) (stt_le (B := B) (E := E) a)).2.2.1 (stt B E a) (Nat.le_refl _) (by show stt B E a < lte B E a; omega))
      have sj : ((Int32.ofNat (B (stt B E a))) : Int32).toInt8.toInt32 = (Int32.ofNat (B (stt B E a))) := by
        rcases sbt_at b1 with q | q
        · exact q.2
        · omega
      rw [sj] at eB
      have h104 : 104 < B (stt B E a) := by omega
      simp -implicitDefEqProofs (disch := (first | omega | assumption | exact am_isS_3 | exact am_isS_25 | exact am_isX_356 | exact am_isX_359)) only [uR_letterTold, ggR_letterTold_0, ggR_letterTold_1, ggR_letterTold_2, ggR_letterTold_3, ggR_letterTold_4, ccR_letterTold_0_1, ccR_letterTold_1_1, el, rs_p, rs_b, h1, eB, rR_in, am_kI_x, am_kV_x, am_kI_i, am_nI_i, am_kV_i, am_nV_i, ↓reduceIte, eq_self, if_true, if_false, c_in, c_tn, pn_add, pn_mul, pn_subc, pn_addm, c_le_t, c_le_f, c_lt_t, c_lt_f, c_eq_f, c_eqm, bi_z, bi_1, bi_b, bi_T, bi_F, ite_not, up_eq, up_ne, or_self, or_true, true_or, or_false, false_or, and_true, true_and, and_self, not_true_eq_false, not_false_eq_true, Bool.false_eq_true]
    · simp -implicitDefEqProofs (disch := (first | omega | assumption | exact am_isS_3 | exact am_isS_25 | exact am_isX_356 | exact am_isX_359)) only [uR_letterTold, ggR_letterTold_0, ggR_letterTold_1, ggR_letterTold_2, ggR_letterTold_3, ggR_letterTold_4, ccR_letterTold_0_1, ccR_letterTold_1_1, el, rs_p, rs_b, h1, am_kI_x, am_kV_x, am_kI_i, am_nI_i, am_kV_i, am_nV_i, ↓reduceIte, eq_self, if_true, if_false, c_in, c_tn, pn_add, pn_mul, pn_subc, pn_addm, c_le_t, c_le_f, c_lt_t, c_lt_f, c_eq_f, c_eqm, bi_z, bi_1, bi_b, bi_T, bi_F, ite_not, up_eq, up_ne, or_self, or_true, true_or, or_false, false_or, and_true, true_and, and_self, not_true_eq_false, not_false_eq_true, Bool.false_eq_true]
  · rw [q]
    obtain ⟨b1, b2⟩ := T.2.2 (stt B E a) (by omega)
    have eB : (rs h (lte B E a) (stt B E a)).2 379 (stt B E a) = ((Int32.ofNat (B (stt B E a)))).toInt8.toInt32 := by rw [rs_o (by omega)]; exact b2
    have sj : ((Int32.ofNat (B (stt B E a))) : Int32).toInt8.toInt32 = (Int32.ofNat (B (stt B E a))) := by
      rcases sbt_at b1 with q | q
      · exact q.2
      · omega
    rw [sj, hb] at eB
    have e97 : 97 + t - 97 = t := by omega
    simp -implicitDefEqProofs (disch := (first | omega | assumption | exact am_isS_3 | exact am_isS_25 | exact am_isX_356 | exact am_isX_359)) only [uR_letterTold, ggR_letterTold_0, ggR_letterTold_1, ggR_letterTold_2, ggR_letterTold_3, ggR_letterTold_4, ccR_letterTold_0_1, ccR_letterTold_1_1, el, rs_p, rs_b, hl, eB, rR_in, e97, am_kI_x, am_kV_x, am_kI_i, am_nI_i, am_kV_i, am_nV_i, ↓reduceIte, eq_self, if_true, if_false, c_in, c_tn, pn_add, pn_mul, pn_subc, pn_addm, c_le_t, c_le_f, c_lt_t, c_lt_f, c_eq_f, c_eqm, bi_z, bi_1, bi_b, bi_T, bi_F, ite_not, up_eq, up_ne, or_self, or_true, true_or, or_false, false_or, and_true, true_and, and_self, not_true_eq_false, not_false_eq_true, Bool.false_eq_true]
theorem rR_after_f {h : am_H} {B : Nat → Nat} {E a p id w : Nat} (T : rtp h B E) (K : Tk B E a p) (hw : wdOK id w) (hq : ¬ cdx B E a = (Int32.ofNat (1000 + w))) (m : Int32) (b d : Nat) : am_cl (d + 4) qR_after [.ref 373, .ref ((1000 + id)), .int (Int32.ofNat 0), .int m] (rs h p b) = some (.inl (some (-1)), rs h (lte B E a) (stt B E a)) := by
  have el := fun d => rR_lettersA T K b d
  have ew := fun d => rR_isWord (a := a) T hw d
  simp only [bi_f hq] at ew
  simp -implicitDefEqProofs (disch := (first | omega | assumption | exact am_isS_3 | exact am_isS_25 | exact am_isX_356 | exact am_isX_359)) only [uR_after, ggR_after_0, ggR_after_1, ggR_after_2, ggR_after_3, ccR_after_0_2, ccR_after_0_1, ccR_after_1_1, el, ew, am_kI_x, am_kV_x, am_kI_i, am_nI_i, am_kV_i, am_nV_i, ↓reduceIte, eq_self, if_true, if_false, c_in, c_tn, pn_add, pn_mul, pn_subc, pn_addm, c_le_t, c_le_f, c_lt_t, c_lt_f, c_eq_f, c_eqm, bi_z, bi_1, bi_b, bi_T, bi_F, ite_not, up_eq, up_ne, or_self, or_true, true_or, or_false, false_or, and_true, true_and, and_self, not_true_eq_false, not_false_eq_true, Bool.false_eq_true]
theorem rR_after_t {h : am_H} {B : Nat → Nat} {E a p id w : Nat} (T : rtp h B E) (K : Tk B E a p) (hw : wdOK id w) (hq : cdx B E a = (Int32.ofNat (1000 + w))) (m : Int32) (b d : Nat) : am_cl (d + 4) qR_after [.ref 373, .ref ((1000 + id)), .int (Int32.ofNat 0), .int m] (rs h p b) = some (.inl (some (nvI B E (a + 1) m)), rs h (dte B E (a + 1)) (stt B E (a + 1))) := by
  have el := fun d => rR_lettersA T K b d
  have ew := fun d => rR_isWord (a := a) T hw d
  simp only [bi_t hq] at ew
  have en := fun d => rR_number T (tk_word (hB_of T) hw.1 hq).2 m (stt B E a) d
  simp -implicitDefEqProofs (disch := (first | omega | assumption | exact am_isS_3 | exact am_isS_25 | exact am_isX_356 | exact am_isX_359)) only [uR_after, ggR_after_0, ggR_after_1, ggR_after_2, ggR_after_3, ccR_after_0_2, ccR_after_0_1, ccR_after_1_1, el, ew, en, am_kI_x, am_kV_x, am_kI_i, am_nI_i, am_kV_i, am_nV_i, ↓reduceIte, eq_self, if_true, if_false, c_in, c_tn, pn_add, pn_mul, pn_subc, pn_addm, c_le_t, c_le_f, c_lt_t, c_lt_f, c_eq_f, c_eqm, bi_z, bi_1, bi_b, bi_T, bi_F, ite_not, up_eq, up_ne, or_self, or_true, true_or, or_false, false_or, and_true, true_and, and_self, not_true_eq_false, not_false_eq_true, Bool.false_eq_true]
theorem rR_told_f {h : am_H} {B : Nat → Nat} {E a p id w : Nat} (T : rtp h B E) (K : Tk B E a p) (hw : wdOK id w) (hq : ¬ cdx B E a = (Int32.ofNat (1000 + w))) (m y : Int32) (b d : Nat) : am_cl (d + 5) qR_told [.ref 373, .ref ((1000 + id)), .int (Int32.ofNat 0), .int m, .int y] (rs h p b) = some (.inl (some (y)), rs h (stt B E a) (stt B E a)) := by
  have ep := fun d => rR_passes_f T K hw hq b d
  simp -implicitDefEqProofs (disch := (first | omega | assumption | exact am_isS_3 | exact am_isS_25 | exact am_isX_356 | exact am_isX_359)) only [uR_told, ggR_told_0, ggR_told_1, ggR_told_2, ggR_told_3, ggR_told_4, ggR_told_5, ccR_told_0_1, ccR_told_2_1, ep, am_kI_x, am_kV_x, am_kI_i, am_nI_i, am_kV_i, am_nV_i, ↓reduceIte, eq_self, if_true, if_false, c_in, c_tn, pn_add, pn_mul, pn_subc, pn_addm, c_le_t, c_le_f, c_lt_t, c_lt_f, c_eq_f, c_eqm, bi_z, bi_1, bi_b, bi_T, bi_F, ite_not, up_eq, up_ne, or_self, or_true, true_or, or_false, false_or, and_true, true_and, and_self, not_true_eq_false, not_false_eq_true, Bool.false_eq_true]
theorem m1_neg0 : ((Int32.ofNat 0) ≤ (-1 : Int32)) = False := by decide
theorem rR_told_t {h : am_H} {B : Nat → Nat} {E a p id w : Nat} (T : rtp h B E) (K : Tk B E a p) (hw : wdOK id w) (hq : cdx B E a = (Int32.ofNat (1000 + w))) (m y : Int32) (b d : Nat) : am_cl (d + 5) qR_told [.ref 373, .ref ((1000 + id)), .int (Int32.ofNat 0), .int m, .int y] (rs h p b) = some (.inl (some (if nvI B E (a + 1) m = -1 then (Int32.ofNat 1000000) else nvI B E (a + 1) m)), rs h (dte B E (a + 1)) (stt B E (a + 1))) := by
  have ep := fun d => rR_passes_t T K hw hq b d
  have en := fun d => rR_number T (tk_word (hB_of T) hw.1 hq).2 m (stt B E a) d
  rcases nvI_cases (a := a + 1) (hB_of T) m with q | ⟨v, v1, q, -⟩
  · rw [q, if_pos rfl]
    rw [q] at en
    simp -implicitDefEqProofs (disch := (first | omega | assumption | exact am_isS_3 | exact am_isS_25 | exact am_isX_356 | exact am_isX_359)) only [uR_told, ggR_told_0, ggR_told_1, ggR_told_2, ggR_told_3, ggR_told_4, ggR_told_5, ccR_told_0_1, ccR_told_2_1, ep, en, m1_neg0, am_kI_x, am_kV_x, am_kI_i, am_nI_i, am_kV_i, am_nV_i, ↓reduceIte, eq_self, if_true, if_false, c_in, c_tn, pn_add, pn_mul, pn_subc, pn_addm, c_le_t, c_le_f, c_lt_t, c_lt_f, c_eq_f, c_eqm, bi_z, bi_1, bi_b, bi_T, bi_F, ite_not, up_eq, up_ne, or_self, or_true, true_or, or_false, false_or, and_true, true_and, and_self, not_true_eq_false, not_false_eq_true, Bool.false_eq_true]
  · have hne : ¬ ((Int32.ofNat v) : Int32) = -1 := fun z => ne_m1 (by omega) z.symm
    rw [q, if_neg hne]
    rw [q] at en
    simp -implicitDefEqProofs (disch := (first | omega | assumption | exact am_isS_3 | exact am_isS_25 | exact am_isX_356 | exact am_isX_359)) only [uR_told, ggR_told_0, ggR_told_1, ggR_told_2, ggR_told_3, ggR_told_4, ggR_told_5, ccR_told_0_1, ccR_told_2_1, ep, en, am_kI_x, am_kV_x, am_kI_i, am_nI_i, am_kV_i, am_nV_i, ↓reduceIte, eq_self, if_true, if_false, c_in, c_tn, pn_add, pn_mul, pn_subc, pn_addm, c_le_t, c_le_f, c_lt_t, c_lt_f, c_eq_f, c_eqm, bi_z, bi_1, bi_b, bi_T, bi_F, ite_not, up_eq, up_ne, or_self, or_true, true_or, or_false, false_or, and_true, true_and, and_self, not_true_eq_false, not_false_eq_true, Bool.false_eq_true]
