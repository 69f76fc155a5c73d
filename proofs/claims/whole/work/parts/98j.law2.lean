/-! a law's parts and sums -/
theorem lte_go {B : Nat → Nat} {E a : Nat} (h : stt B E a < E) (hl : isLt (B (stt B E a)) = true) : stt B E a < lte B E a := by
  unfold lte
  rw [rn_go h hl]
  exact (rn_at (by omega)).1
theorem lte_no {B : Nat → Nat} {E a : Nat} (h : ¬ (stt B E a < E ∧ isLt (B (stt B E a)) = true)) : lte B E a = stt B E a := rn_no h
theorem piece_both {h : am_H} {B : Nat → Nat} {E a p l : Nat} (T : rtp h B E) (K : Tk B E a p) (e16 : h.2 373 16 = (Int32.ofNat l)) (hl : l < 400) (b : Nat) :
    (∃ x y p', (cdx B E a < (Int32.ofNat 0) ∨ ¬ cdx B E a ≤ (Int32.ofNat 1007)) ∧ ∀ d, am_cl (d + 4) qR_readPart [.ref 373] (rs h p b) = some (.inl (some ((Int32.ofNat 0))), rs (emt h l x y) p' (stt B E a))) ∨
    (∃ c k v p', c ≤ 1007 ∧ cdx B E a = (Int32.ofNat c) ∧ k < 18 ∧ (k ≤ 7 ∨ k = 11) ∧ cR (Int32.ofNat c) k v ∧ stt B E a < E ∧ Tk B E (a + 1) p' ∧ ∀ d, am_cl (d + 4) qR_readPart [.ref 373] (rs h p b) = some (.inl (some ((Int32.ofNat 1))), rs (emt h l (Int32.ofNat k) v) p' (stt B E a))) := by
  have hE := T.1
  have hB := hB_of T
  have el := fun d => rR_lettersA T K b d
  have s10 : (rs h (lte B E a) (stt B E a)).2 373 10 = (Int32.ofNat (lte B E a)) := rs_p
  have s12 : (rs h (lte B E a) (stt B E a)).2 373 12 = (Int32.ofNat (stt B E a)) := rs_b
  have em := fun p b k v d => rR_emits (p := p) (b := b) e16 hl k v d
  have hle := lte_le (B := B) (E := E) (a := a)
  by_cases hz : lte B E a = stt B E a
  · rw [hz] at el s10
    rw [hz] at s12
    have en := fun d => rR_number T (tk_st (B := B) (E := E) (a := a)) (Int32.ofNat 999) (stt B E a) d
    rcases nvI_cases (a := a) hB (Int32.ofNat 999) with q | ⟨v, v1, q, q', v2, v3, v4⟩
    · rw [q] at en
      refine Or.inl ⟨(Int32.ofNat 11), -1, dte B E a, ?_, ?_⟩
      · rcases cdx_cases (a := a) hB with ⟨-, e⟩ | ⟨hs, ⟨-, -, ⟨-, w, hw, -, e⟩ | ⟨-, e⟩⟩ | ⟨l1, -, -⟩ | ⟨-, -, -, e⟩⟩
        · left; rw [e]; decide
        · exfalso
          unfold nvI at q
          rw [e, if_neg (by rw [pn_lt (by omega) (by omega)]; omega), if_neg (by rw [pn_le (by omega) (by omega)]; omega), if_neg (by rw [pn_lt (by omega) (by omega)]; omega)] at q
          exact ne_m1 (by omega) q.symm
        · left; rw [e]; decide
        · have := lte_go hs l1; omega
        · right; rw [e, pn_le (by have := hB _ hs; omega) (by omega)]; omega
      · intro d
        simp -implicitDefEqProofs (disch := (first | omega | assumption | exact am_isS_3 | exact am_isS_25 | exact am_isX_356 | exact am_isX_359)) only [uR_readPart, ggR_readPart_0, ggR_readPart_1, ggR_readPart_2, ggR_readPart_3, ggR_readPart_4, ggR_readPart_5, ggR_readPart_6, ggR_readPart_7, ggR_readPart_8, ggR_readPart_9, ggR_readPart_10, ggR_readPart_11, ggR_readPart_12, ggR_readPart_13, ggR_readPart_14, ggR_readPart_15, ccR_readPart_0_1, ccR_readPart_4_1, ccR_readPart_5_1, ccR_readPart_12_1, el, s10, s12, en, em, kd373, m1_neg, am_kI_x, am_kV_x, am_kI_i, am_nI_i, am_kV_i, am_nV_i, ↓reduceIte, eq_self, if_true, if_false, c_in, c_tn, pn_add, pn_mul, pn_subc, pn_addm, c_le_t, c_le_f, c_lt_t, c_lt_f, c_eq_f, c_eqm, bi_z, bi_1, bi_b, bi_T, bi_F, ite_not, up_eq, up_ne, or_self, or_true, true_or, or_false, false_or, and_true, true_and, and_self, not_true_eq_false, not_false_eq_true, Bool.false_eq_true]
    · rw [q] at en
      have n0 : ¬ ((Int32.ofNat v) : Int32) < (Int32.ofNat 0) := by rw [pn_lt (by omega) (by omega)]; omega
      refine Or.inr ⟨v, 11, (Int32.ofNat v), dte B E a, by omega, q', by omega, Or.inr rfl, Or.inl ⟨rfl, v, v1, rfl, rfl⟩, v3, v4, ?_⟩
      intro d
      simp -implicitDefEqProofs (disch := (first | omega | assumption | exact am_isS_3 | exact am_isS_25 | exact am_isX_356 | exact am_isX_359)) only [uR_readPart, ggR_readPart_0, ggR_readPart_1, ggR_readPart_2, ggR_readPart_3, ggR_readPart_4, ggR_readPart_5, ggR_readPart_6, ggR_readPart_7, ggR_readPart_8, ggR_readPart_9, ggR_readPart_10, ggR_readPart_11, ggR_readPart_12, ggR_readPart_13, ggR_readPart_14, ggR_readPart_15, ccR_readPart_0_1, ccR_readPart_4_1, ccR_readPart_5_1, ccR_readPart_12_1, el, s10, s12, en, em, kd373, n0, am_kI_x, am_kV_x, am_kI_i, am_nI_i, am_kV_i, am_nV_i, ↓reduceIte, eq_self, if_true, if_false, c_in, c_tn, pn_add, pn_mul, pn_subc, pn_addm, c_le_t, c_le_f, c_lt_t, c_lt_f, c_eq_f, c_eqm, bi_z, bi_1, bi_b, bi_T, bi_F, ite_not, up_eq, up_ne, or_self, or_true, true_or, or_false, false_or, and_true, true_and, and_self, not_true_eq_false, not_false_eq_true, Bool.false_eq_true]
  · have ne : ¬ ((Int32.ofNat (lte B E a)) : Int32) = (Int32.ofNat (stt B E a)) := fun z => hz ((pn_eq (by omega) (by omega)).mp z)
    rcases rR_wordOfPart (a := a) T 0 with ⟨f, hf, q, -⟩ | ⟨q, -⟩
    · have ew : ∀ d, am_cl (d + 2) qR_wordOfPart [.ref 373] (rs h (lte B E a) (stt B E a)) = some (.inl (some ((Int32.ofNat f))), rs h (lte B E a) (stt B E a)) := fun d => by
        rcases rR_wordOfPart (a := a) T d with ⟨f', hf', q', e⟩ | ⟨q', -⟩
        · have : f' = f := by
            rw [q] at q'
            have := (pn_eq (by omega) (by omega)).mp q'
            omega
          rw [this] at e
          exact e
        · exact absurd q (q' f hf)
      have n0 : ¬ ((Int32.ofNat f) : Int32) < (Int32.ofNat 0) := by rw [pn_lt (by omega) (by omega)]; omega
      obtain ⟨t1, t2⟩ := tk_word hB (by omega : f < 23) q
      refine Or.inr ⟨1000 + f, f, (Int32.ofNat 0), lte B E a, by omega, q, by omega, Or.inl (by omega), Or.inr (Or.inl ⟨by omega, rfl⟩), t1, t2, ?_⟩
      intro d
      simp -implicitDefEqProofs (disch := (first | omega | assumption | exact am_isS_3 | exact am_isS_25 | exact am_isX_356 | exact am_isX_359)) only [uR_readPart, ggR_readPart_0, ggR_readPart_1, ggR_readPart_2, ggR_readPart_3, ggR_readPart_4, ggR_readPart_5, ggR_readPart_6, ggR_readPart_7, ggR_readPart_8, ggR_readPart_9, ggR_readPart_10, ggR_readPart_11, ggR_readPart_12, ggR_readPart_13, ggR_readPart_14, ggR_readPart_15, ccR_readPart_0_1, ccR_readPart_4_1, ccR_readPart_5_1, ccR_readPart_12_1, el, s10, s12, ne, ew, em, kd373, n0, am_kI_x, am_kV_x, am_kI_i, am_nI_i, am_kV_i, am_nV_i, ↓reduceIte, eq_self, if_true, if_false, c_in, c_tn, pn_add, pn_mul, pn_subc, pn_addm, c_le_t, c_le_f, c_lt_t, c_lt_f, c_eq_f, c_eqm, bi_z, bi_1, bi_b, bi_T, bi_F, ite_not, up_eq, up_ne, or_self, or_true, true_or, or_false, false_or, and_true, true_and, and_self, not_true_eq_false, not_false_eq_true, Bool.false_eq_true]
    · have ew : ∀ d, am_cl (d + 2) qR_wordOfPart [.ref 373] (rs h (lte B E a) (stt B E a)) = some (.inl (some (-1)), rs h (lte B E a) (stt B E a)) := fun d => by
        rcases rR_wordOfPart (a := a) T d with ⟨f', hf', q', e⟩ | ⟨-, e⟩
        · exact absurd q' (q f' hf')
        · exact e
      refine Or.inl ⟨-1, (Int32.ofNat 0), lte B E a, ?_, ?_⟩
      · rcases cdx_cases (a := a) hB with ⟨-, e⟩ | ⟨hs, ⟨d1, -, -⟩ | ⟨-, -, ⟨-, -, e⟩ | ⟨-, -, e⟩ | ⟨-, ⟨f, hf, e⟩ | e⟩⟩ | ⟨-, l0, -, -⟩⟩
        · left; rw [e]; decide
        · exfalso
          exact hz (lte_no (fun z => by rw [lt_dg z.2] at d1; cases d1))
        · right; rw [e, pn_le (by have := hB _ hs; omega) (by omega)]; omega
        · left; rw [e]; decide
        · right
          by_cases f8 : f < 8
          · exact absurd e (q f f8)
          · rw [e, pn_le (by omega) (by omega)]; omega
        · left; rw [e]; decide
        · exact absurd (lte_no (fun z => by rw [l0] at z; cases z.2)) hz
      · intro d
        simp -implicitDefEqProofs (disch := (first | omega | assumption | exact am_isS_3 | exact am_isS_25 | exact am_isX_356 | exact am_isX_359)) only [uR_readPart, ggR_readPart_0, ggR_readPart_1, ggR_readPart_2, ggR_readPart_3, ggR_readPart_4, ggR_readPart_5, ggR_readPart_6, ggR_readPart_7, ggR_readPart_8, ggR_readPart_9, ggR_readPart_10, ggR_readPart_11, ggR_readPart_12, ggR_readPart_13, ggR_readPart_14, ggR_readPart_15, ccR_readPart_0_1, ccR_readPart_4_1, ccR_readPart_5_1, ccR_readPart_12_1, el, s10, s12, ne, ew, em, kd373, m1_neg, am_kI_x, am_kV_x, am_kI_i, am_nI_i, am_kV_i, am_nV_i, ↓reduceIte, eq_self, if_true, if_false, c_in, c_tn, pn_add, pn_mul, pn_subc, pn_addm, c_le_t, c_le_f, c_lt_t, c_lt_f, c_eq_f, c_eqm, bi_z, bi_1, bi_b, bi_T, bi_F, ite_not, up_eq, up_ne, or_self, or_true, true_or, or_false, false_or, and_true, true_and, and_self, not_true_eq_false, not_false_eq_true, Bool.false_eq_true]
theorem tyk_push {k : Nat} {ts : List Bool} (hk : k ≤ 7 ∨ k = 11) (h : ts.length < 24) : tyk k ts = some (false :: ts) := by
  unfold tyk
  rw [if_neg (by omega), if_pos (by omega)]
theorem tyk_12 {ts : List Bool} (h : ts.length < 22) : tyk 12 (false :: false :: ts) = some (false :: ts) := by
  unfold tyk
  rw [if_neg (by simp; omega), if_neg (by omega), if_neg (by omega), if_neg (by omega), if_pos rfl]
theorem sum_l {B : Nat → Nat} {E n e dp a0 l0 : Nat} {ts : List Bool} {hC0 hR0 : am_H} (hts : ts.length ≤ 20) (h0 : l0 + 2 ≤ a0) (c r : Nat) : ∀ (k i a l q : Nat) (tsi : List Bool) (hC hR : am_H) (p b : Nat) (x2 : Value), n < a + k → 2 * i ≤ a → CB B E n e a l dp tsi hC hR → Tk B E a p → CF l0 hC0 hC hR0 hR → (i = 0 ∧ tsi = ts ∧ l0 ≤ l ∧ a0 ≤ a ∧ l + a0 ≤ l0 + a ∧ q = 0 ∨ 0 < i ∧ tsi = false :: ts ∧ l0 < l ∧ a0 < a ∧ l + 1 + a0 ≤ l0 + a ∧ q = 3) → CO B E n e a0 l0 dp ts false hC0 hR0 (am_go (am_cl (c + 1)) qY_readSum 1 [.ref 359, .int (Int32.ofNat i), x2] [] hC) (am_go (am_cl (r + 4)) qR_readSum q [.ref 373] [] (rs hR p b)) := by
  intro k
  induction k with
  | zero =>
    intro i a l q tsi hC hR p b x2 hk h2 S K F cs
    have := S.2.2.1
    omega
  | succ k ih =>
    intro i a l q tsi hC hR p b x2 hk h2 S K F cs
    have n4 := S.1.1
    have an := S.2.2.1
    have hl0 : l0 ≤ l ∧ a0 ≤ a ∧ l + a0 ≤ l0 + a := by
      rcases cs with ⟨-, -, q1, q2, q3, -⟩ | ⟨-, -, q1, q2, q3, -⟩
      · exact ⟨q1, q2, q3⟩
      · exact ⟨by omega, by omega, by omega⟩
    have hl : l + 2 ≤ a := by omega
    have ec := fun d => xX_code am_isX_359 S.1 S.2.1 an d
    have TR := S.2.2.2.1
    rcases piece_both (a := a) TR K S.2.2.2.2.2.1 (by omega) b with ⟨x, y, p', hq, ep⟩ | ⟨cc, kk, v, p', c1, c2, c3, c4, c5, c6, c7, ep⟩
    · refine Or.inl ⟨hC, emt hR l x y, p', a, ?_, ?_, S.2.1, an, F.tr (CF.em (Nat.le_refl l)) (by omega)⟩
      · rcases hq with hq | hq
        · simp -implicitDefEqProofs (disch := (first | omega | assumption | exact am_isS_3 | exact am_isS_25 | exact am_isX_356 | exact am_isX_359)) only [ggY_readSum_1, ggY_readSum_0, ggY_readSum_2, ggY_readSum_3, ggY_readSum_4, ggY_readSum_5, ggY_readSum_6, ggY_readSum_7, ggY_readSum_8, ggY_readSum_9, ggY_readSum_10, ggY_readSum_11, ggY_readSum_12, ccY_readSum_2_1, ccY_readSum_5_1, ccY_readSum_7_1, ccY_readSum_9_2, ccY_readSum_9_1, ec, hq, am_kI_x, am_kV_x, am_kI_i, am_nI_i, am_kV_i, am_nV_i, ↓reduceIte, eq_self, if_true, if_false, c_in, c_tn, pn_add, pn_mul, pn_subc, pn_addm, c_le_t, c_le_f, c_lt_t, c_lt_f, c_eq_f, c_eqm, bi_z, bi_1, bi_b, bi_T, bi_F, ite_not, up_eq, up_ne, or_self, or_true, true_or, or_false, false_or, and_true, true_and, and_self, not_true_eq_false, not_false_eq_true, Bool.false_eq_true]
        · by_cases h0 : cdx B E a < (Int32.ofNat 0)
          · simp -implicitDefEqProofs (disch := (first | omega | assumption | exact am_isS_3 | exact am_isS_25 | exact am_isX_356 | exact am_isX_359)) only [ggY_readSum_1, ggY_readSum_0, ggY_readSum_2, ggY_readSum_3, ggY_readSum_4, ggY_readSum_5, ggY_readSum_6, ggY_readSum_7, ggY_readSum_8, ggY_readSum_9, ggY_readSum_10, ggY_readSum_11, ggY_readSum_12, ccY_readSum_2_1, ccY_readSum_5_1, ccY_readSum_7_1, ccY_readSum_9_2, ccY_readSum_9_1, ec, h0, am_kI_x, am_kV_x, am_kI_i, am_nI_i, am_kV_i, am_nV_i, ↓reduceIte, eq_self, if_true, if_false, c_in, c_tn, pn_add, pn_mul, pn_subc, pn_addm, c_le_t, c_le_f, c_lt_t, c_lt_f, c_eq_f, c_eqm, bi_z, bi_1, bi_b, bi_T, bi_F, ite_not, up_eq, up_ne, or_self, or_true, true_or, or_false, false_or, and_true, true_and, and_self, not_true_eq_false, not_false_eq_true, Bool.false_eq_true]
          · simp -implicitDefEqProofs (disch := (first | omega | assumption | exact am_isS_3 | exact am_isS_25 | exact am_isX_356 | exact am_isX_359)) only [ggY_readSum_1, ggY_readSum_0, ggY_readSum_2, ggY_readSum_3, ggY_readSum_4, ggY_readSum_5, ggY_readSum_6, ggY_readSum_7, ggY_readSum_8, ggY_readSum_9, ggY_readSum_10, ggY_readSum_11, ggY_readSum_12, ccY_readSum_2_1, ccY_readSum_5_1, ccY_readSum_7_1, ccY_readSum_9_2, ccY_readSum_9_1, ec, h0, hq, am_kI_x, am_kV_x, am_kI_i, am_nI_i, am_kV_i, am_nV_i, ↓reduceIte, eq_self, if_true, if_false, c_in, c_tn, pn_add, pn_mul, pn_subc, pn_addm, c_le_t, c_le_f, c_lt_t, c_lt_f, c_eq_f, c_eqm, bi_z, bi_1, bi_b, bi_T, bi_F, ite_not, up_eq, up_ne, or_self, or_true, true_or, or_false, false_or, and_true, true_and, and_self, not_true_eq_false, not_false_eq_true, Bool.false_eq_true]
      · rcases cs with ⟨-, -, -, -, -, rfl⟩ | ⟨-, -, -, -, -, rfl⟩
        · simp -implicitDefEqProofs (disch := (first | omega | assumption | exact am_isS_3 | exact am_isS_25 | exact am_isX_356 | exact am_isX_359)) only [ggR_readSum_0, ggR_readSum_1, ggR_readSum_3, ggR_readSum_4, ggR_readSum_5, ggR_readSum_6, ccR_readSum_0_1, ccR_readSum_2_1, ccR_readSum_3_1, ccR_readSum_5_1, ep, am_kI_x, am_kV_x, am_kI_i, am_nI_i, am_kV_i, am_nV_i, ↓reduceIte, eq_self, if_true, if_false, c_in, c_tn, pn_add, pn_mul, pn_subc, pn_addm, c_le_t, c_le_f, c_lt_t, c_lt_f, c_eq_f, c_eqm, bi_z, bi_1, bi_b, bi_T, bi_F, ite_not, up_eq, up_ne, or_self, or_true, true_or, or_false, false_or, and_true, true_and, and_self, not_true_eq_false, not_false_eq_true, Bool.false_eq_true]
        · simp -implicitDefEqProofs (disch := (first | omega | assumption | exact am_isS_3 | exact am_isS_25 | exact am_isX_356 | exact am_isX_359)) only [ggR_readSum_0, ggR_readSum_1, ggR_readSum_3, ggR_readSum_4, ggR_readSum_5, ggR_readSum_6, ccR_readSum_0_1, ccR_readSum_2_1, ccR_readSum_3_1, ccR_readSum_5_1, ep, am_kI_x, am_kV_x, am_kI_i, am_nI_i, am_kV_i, am_nV_i, ↓reduceIte, eq_self, if_true, if_false, c_in, c_tn, pn_add, pn_mul, pn_subc, pn_addm, c_le_t, c_le_f, c_lt_t, c_lt_f, c_eq_f, c_eqm, bi_z, bi_1, bi_b, bi_T, bi_F, ite_not, up_eq, up_ne, or_self, or_true, true_or, or_false, false_or, and_true, true_and, and_self, not_true_eq_false, not_false_eq_true, Bool.false_eq_true]
    · rw [c2] at ec
      have la := TV_ltE S.1 an c6
      have tl : tsi.length < 24 := by
        rcases cs with ⟨-, rfl, -⟩ | ⟨-, rfl, -⟩
        · omega
        · simp; omega
      have S1 := S.put c3 (tyk_push c4 tl) c5
      have f0 : ¬ ((Int32.ofNat cc) : Int32) < (Int32.ofNat 0) := by rw [pn_lt (by omega) (by omega)]; omega
      have f1 : ((Int32.ofNat cc) : Int32) ≤ (Int32.ofNat 1007) := by rw [pn_le (by omega) (by omega)]; omega
      have pc := fun d => xL_put S.2.2.2.2.1 (by omega) (Int32.ofNat cc) d
      obtain ⟨l2, hC2, hR2, g1, g2, g3, S2, F2, gC0, gC1, gR⟩ : ∃ l2 hC2 hR2, l < l2 ∧ l2 + a0 ≤ l0 + a + 1 ∧ l0 < l2 ∧ CB B E n e (a + 1) l2 dp (false :: ts) hC2 hR2 ∧ CF l hC hC2 hR hR2 ∧ (∀ h', (∀ d, am_cl (d + 1) qX_take [.ref 359, .int (Int32.ofNat ((1200 + 43)))] hC2 = some (.inl (some ((Int32.ofNat 0))), h')) → am_go (am_cl (c + 1)) qY_readSum 1 [.ref 359, .int (Int32.ofNat i), x2] [] hC = some (.inl (some ((Int32.ofNat 1))), h')) ∧ (∀ h', (∀ d, am_cl (d + 1) qX_take [.ref 359, .int (Int32.ofNat ((1200 + 43)))] hC2 = some (.inl (some ((Int32.ofNat 1))), h')) → am_go (am_cl (c + 1)) qY_readSum 1 [.ref 359, .int (Int32.ofNat i), x2] [] hC = am_go (am_cl (c + 1)) qY_readSum 1 [.ref 359, .int (Int32.ofNat (i + 1)), .int (Int32.ofNat cc)] [] h') ∧ am_go (am_cl (r + 4)) qR_readSum q [.ref 373] [] (rs hR p b) = am_go (am_cl (r + 4)) qR_readSum 2 [.ref 373] [] (rs hR2 p' (stt B E a)) := by
        rcases cs with ⟨rfl, rfl, q1, q2, q3, rfl⟩ | ⟨q0, rfl, q1, q2, q3, rfl⟩
        · have es := fun d => xX_step am_isX_359 S1.1 (a := a) S1.2.1 la d
          refine ⟨l + 1, am_up (ptc hC l (Int32.ofNat cc)) 359 3 (Int32.ofNat (a + 1)), emt hR l (Int32.ofNat kk) v, by omega, by omega, by omega, S1.at la, ((CF.pt (Nat.le_refl l)).tr CF.at (Nat.le_refl l)).tr (CF.em (Nat.le_refl l)) (Nat.le_refl l), fun h' et => ?_, fun h' et => ?_, ?_⟩
          · simp -implicitDefEqProofs (disch := (first | omega | assumption | exact am_isS_3 | exact am_isS_25 | exact am_isX_356 | exact am_isX_359)) only [ggY_readSum_1, ggY_readSum_0, ggY_readSum_2, ggY_readSum_3, ggY_readSum_4, ggY_readSum_5, ggY_readSum_6, ggY_readSum_7, ggY_readSum_8, ggY_readSum_9, ggY_readSum_10, ggY_readSum_11, ggY_readSum_12, ccY_readSum_2_1, ccY_readSum_5_1, ccY_readSum_7_1, ccY_readSum_9_2, ccY_readSum_9_1, ec, f0, f1, pc, es, et, am_kI_x, am_kV_x, am_kI_i, am_nI_i, am_kV_i, am_nV_i, ↓reduceIte, eq_self, if_true, if_false, c_in, c_tn, pn_add, pn_mul, pn_subc, pn_addm, c_le_t, c_le_f, c_lt_t, c_lt_f, c_eq_f, c_eqm, bi_z, bi_1, bi_b, bi_T, bi_F, ite_not, up_eq, up_ne, or_self, or_true, true_or, or_false, false_or, and_true, true_and, and_self, not_true_eq_false, not_false_eq_true, Bool.false_eq_true]
          · rw [ggY_readSum_1]
            simp -implicitDefEqProofs (disch := (first | omega | assumption | exact am_isS_3 | exact am_isS_25 | exact am_isX_356 | exact am_isX_359)) only [ggY_readSum_0, ggY_readSum_2, ggY_readSum_3, ggY_readSum_4, ggY_readSum_5, ggY_readSum_6, ggY_readSum_7, ggY_readSum_8, ggY_readSum_9, ggY_readSum_10, ggY_readSum_11, ggY_readSum_12, ccY_readSum_2_1, ccY_readSum_5_1, ccY_readSum_7_1, ccY_readSum_9_2, ccY_readSum_9_1, ec, f0, f1, pc, es, et, am_kI_x, am_kV_x, am_kI_i, am_nI_i, am_kV_i, am_nV_i, ↓reduceIte, eq_self, if_true, if_false, c_in, c_tn, pn_add, pn_mul, pn_subc, pn_addm, c_le_t, c_le_f, c_lt_t, c_lt_f, c_eq_f, c_eqm, bi_z, bi_1, bi_b, bi_T, bi_F, ite_not, up_eq, up_ne, or_self, or_true, true_or, or_false, false_or, and_true, true_and, and_self, not_true_eq_false, not_false_eq_true, Bool.false_eq_true]
          · simp -implicitDefEqProofs (disch := (first | omega | assumption | exact am_isS_3 | exact am_isS_25 | exact am_isX_356 | exact am_isX_359)) only [ggR_readSum_0, ggR_readSum_1, ggR_readSum_3, ggR_readSum_4, ggR_readSum_5, ggR_readSum_6, ccR_readSum_0_1, ccR_readSum_2_1, ccR_readSum_3_1, ccR_readSum_5_1, ep, am_kI_x, am_kV_x, am_kI_i, am_nI_i, am_kV_i, am_nV_i, ↓reduceIte, eq_self, if_true, if_false, c_in, c_tn, pn_add, pn_mul, pn_subc, pn_addm, c_le_t, c_le_f, c_lt_t, c_lt_f, c_eq_f, c_eqm, bi_z, bi_1, bi_b, bi_T, bi_F, ite_not, up_eq, up_ne, or_self, or_true, true_or, or_false, false_or, and_true, true_and, and_self, not_true_eq_false, not_false_eq_true, Bool.false_eq_true]
        · have S1' := S1.put (k := 12) (x := (Int32.ofNat 1243)) (v := (Int32.ofNat 0)) (by omega) (tyk_12 (by omega)) (Or.inr (Or.inr (Or.inl ⟨rfl, rfl⟩)))
          have pp := fun d => xL_put S1.2.2.2.2.1 (by omega) (Int32.ofNat 1243) d
          have em := fun d => rR_emits (p := p') (b := stt B E a) S1.2.2.2.2.2.1 (by omega) (Int32.ofNat 12) (Int32.ofNat 0) d
          have es := fun d => xX_step am_isX_359 S1'.1 (a := a) S1'.2.1 la d
          have i0 : ¬ ((Int32.ofNat i) : Int32) ≤ (Int32.ofNat 0) := by rw [pn_le (by omega) (by omega)]; omega
          refine ⟨l + 2, am_up (ptc (ptc hC l (Int32.ofNat cc)) (l + 1) (Int32.ofNat 1243)) 359 3 (Int32.ofNat (a + 1)), emt (emt hR l (Int32.ofNat kk) v) (l + 1) (Int32.ofNat 12) (Int32.ofNat 0), by omega, by omega, by omega, S1'.at la, (((CF.pt (Nat.le_refl l)).tr (CF.pt (by omega)) (Nat.le_refl l)).tr CF.at (Nat.le_refl l)).tr ((CF.em (Nat.le_refl l)).tr (CF.em (by omega)) (Nat.le_refl l)) (Nat.le_refl l), fun h' et => ?_, fun h' et => ?_, ?_⟩
          · simp -implicitDefEqProofs (disch := (first | omega | assumption | exact am_isS_3 | exact am_isS_25 | exact am_isX_356 | exact am_isX_359)) only [ggY_readSum_1, ggY_readSum_0, ggY_readSum_2, ggY_readSum_3, ggY_readSum_4, ggY_readSum_5, ggY_readSum_6, ggY_readSum_7, ggY_readSum_8, ggY_readSum_9, ggY_readSum_10, ggY_readSum_11, ggY_readSum_12, ccY_readSum_2_1, ccY_readSum_5_1, ccY_readSum_7_1, ccY_readSum_9_2, ccY_readSum_9_1, ec, f0, f1, pc, pp, i0, es, et, am_kI_x, am_kV_x, am_kI_i, am_nI_i, am_kV_i, am_nV_i, ↓reduceIte, eq_self, if_true, if_false, c_in, c_tn, pn_add, pn_mul, pn_subc, pn_addm, c_le_t, c_le_f, c_lt_t, c_lt_f, c_eq_f, c_eqm, bi_z, bi_1, bi_b, bi_T, bi_F, ite_not, up_eq, up_ne, or_self, or_true, true_or, or_false, false_or, and_true, true_and, and_self, not_true_eq_false, not_false_eq_true, Bool.false_eq_true]
          · rw [ggY_readSum_1]
            simp -implicitDefEqProofs (disch := (first | omega | assumption | exact am_isS_3 | exact am_isS_25 | exact am_isX_356 | exact am_isX_359)) only [ggY_readSum_0, ggY_readSum_2, ggY_readSum_3, ggY_readSum_4, ggY_readSum_5, ggY_readSum_6, ggY_readSum_7, ggY_readSum_8, ggY_readSum_9, ggY_readSum_10, ggY_readSum_11, ggY_readSum_12, ccY_readSum_2_1, ccY_readSum_5_1, ccY_readSum_7_1, ccY_readSum_9_2, ccY_readSum_9_1, ec, f0, f1, pc, pp, i0, es, et, am_kI_x, am_kV_x, am_kI_i, am_nI_i, am_kV_i, am_nV_i, ↓reduceIte, eq_self, if_true, if_false, c_in, c_tn, pn_add, pn_mul, pn_subc, pn_addm, c_le_t, c_le_f, c_lt_t, c_lt_f, c_eq_f, c_eqm, bi_z, bi_1, bi_b, bi_T, bi_F, ite_not, up_eq, up_ne, or_self, or_true, true_or, or_false, false_or, and_true, true_and, and_self, not_true_eq_false, not_false_eq_true, Bool.false_eq_true]
          · rw [ggR_readSum_3]
            simp -implicitDefEqProofs (disch := (first | omega | assumption | exact am_isS_3 | exact am_isS_25 | exact am_isX_356 | exact am_isX_359)) only [ggR_readSum_0, ggR_readSum_1, ggR_readSum_3, ggR_readSum_4, ggR_readSum_5, ggR_readSum_6, ccR_readSum_0_1, ccR_readSum_2_1, ccR_readSum_3_1, ccR_readSum_5_1, ep, em, am_kI_x, am_kV_x, am_kI_i, am_nI_i, am_kV_i, am_nV_i, ↓reduceIte, eq_self, if_true, if_false, c_in, c_tn, pn_add, pn_mul, pn_subc, pn_addm, c_le_t, c_le_f, c_lt_t, c_lt_f, c_eq_f, c_eqm, bi_z, bi_1, bi_b, bi_T, bi_F, ite_not, up_eq, up_ne, or_self, or_true, true_or, or_false, false_or, and_true, true_and, and_self, not_true_eq_false, not_false_eq_true, Bool.false_eq_true]
      have an2 := S2.2.2.1
      have TR2 := S2.2.2.2.1
      have FF := F.tr F2 (by omega : l0 ≤ l)
      rw [gR]
      by_cases hq : cdx B E (a + 1) = (Int32.ofNat (1200 + 43))
      · have et := fun d => xX_take_t am_isX_359 S2.1 S2.2.1 an2 (by omega) hq d
        have lt2 := TV_lt S2.1 an2 (by omega) hq
        have sg := fun d => rR_sign_t TR2 c7 (c := 43) (by omega) (by decide) (by decide) hq (stt B E a) d
        have K2 := (tk_sign (hB_of TR2) (c := 43) (by omega) (by decide) (by decide) hq).2
        have rr := ih (i + 1) (a + 1 + 1) l2 3 (false :: ts) _ hR2 (stt B E (a + 1) + 1) (stt B E (a + 1)) (.int (Int32.ofNat cc)) (by omega) (by omega) (S2.at (a' := a + 1 + 1) (by omega)) K2 (FF.tr (CF.at (l := l0)) (Nat.le_refl l0)) (Or.inr ⟨by omega, rfl, by omega, by omega, by omega, rfl⟩)
        rw [gC1 _ et]
        have : am_go (am_cl (r + 4)) qR_readSum 2 [.ref 373] [] (rs hR2 p' (stt B E a)) = am_go (am_cl (r + 4)) qR_readSum 3 [.ref 373] [] (rs hR2 (stt B E (a + 1) + 1) (stt B E (a + 1))) := by
          rw [ggR_readSum_2]
          simp -implicitDefEqProofs (disch := (first | omega | assumption | exact am_isS_3 | exact am_isS_25 | exact am_isX_356 | exact am_isX_359)) only [ggR_readSum_0, ggR_readSum_1, ggR_readSum_4, ggR_readSum_5, ggR_readSum_6, ccR_readSum_0_1, ccR_readSum_2_1, ccR_readSum_3_1, ccR_readSum_5_1, sg, am_kI_x, am_kV_x, am_kI_i, am_nI_i, am_kV_i, am_nV_i, ↓reduceIte, eq_self, if_true, if_false, c_in, c_tn, pn_add, pn_mul, pn_subc, pn_addm, c_le_t, c_le_f, c_lt_t, c_lt_f, c_eq_f, c_eqm, bi_z, bi_1, bi_b, bi_T, bi_F, ite_not, up_eq, up_ne, or_self, or_true, true_or, or_false, false_or, and_true, true_and, and_self, not_true_eq_false, not_false_eq_true, Bool.false_eq_true]
        rw [this]
        exact rr
      · have et := fun d => xX_take_f am_isX_359 S2.1 S2.2.1 an2 hq d
        have sg := fun d => rR_sign_f TR2 c7 (c := 43) (by omega) (by decide) (by decide) hq (stt B E a) d
        refine Or.inr ⟨hC2, hR2, stt B E (a + 1), stt B E (a + 1), a + 1, l2, gC0 _ et, ?_, tk_st, by omega, g3, by omega, S2, FF⟩
        rw [ggR_readSum_2]
        simp -implicitDefEqProofs (disch := (first | omega | assumption | exact am_isS_3 | exact am_isS_25 | exact am_isX_356 | exact am_isX_359)) only [ggR_readSum_0, ggR_readSum_1, ggR_readSum_3, ggR_readSum_4, ggR_readSum_5, ggR_readSum_6, ccR_readSum_0_1, ccR_readSum_2_1, ccR_readSum_3_1, ccR_readSum_5_1, sg, am_kI_x, am_kV_x, am_kI_i, am_nI_i, am_kV_i, am_nV_i, ↓reduceIte, eq_self, if_true, if_false, c_in, c_tn, pn_add, pn_mul, pn_subc, pn_addm, c_le_t, c_le_f, c_lt_t, c_lt_f, c_eq_f, c_eqm, bi_z, bi_1, bi_b, bi_T, bi_F, ite_not, up_eq, up_ne, or_self, or_true, true_or, or_false, false_or, and_true, true_and, and_self, not_true_eq_false, not_false_eq_true, Bool.false_eq_true]
