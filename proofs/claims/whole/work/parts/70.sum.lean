/-! THE LAW: its lines on both sides, what a child loosens by and leads to -/
/-- the reference's law: L lines, their codes -/
def lawT (W : Nat → Int32) (L : Nat) (E K : Nat → Nat) (n : Nat → Int32) : Prop :=
  L ≤ 12 ∧ W 415 = (Int32.ofNat L) ∧ E 0 = 0 ∧ E L ≤ 400 ∧ (∀ i, i < L → E i ≤ E (i + 1)) ∧ (∀ i, i < L → W (416 + 4 * i + 2) = (Int32.ofNat (E i)) ∧ W (416 + 4 * i + 3) = (Int32.ofNat (E (i + 1))) ∧ rg (W (416 + 4 * i)) 3 ∧ rg (W (416 + 4 * i + 1)) 101) ∧ (∀ j, j < E L → K j < 18 ∧ W (464 + 2 * j) = (Int32.ofNat (K j)) ∧ W (464 + 2 * j + 1) = n j) ∧ ∀ i, i < L → E i = E (i + 1) ∨ tyR K (E (i + 1) - E i) (E i) [] = some [true]
/-- the class's -/
def lawC (h : am_H) (l : Nat) (W : Nat → Int32) (L : Nat) (E K : Nat → Nat) (n : Nat → Int32) : Prop :=
  h.2 l 6 = (Int32.ofNat L) ∧ (∀ i, i < L → h.2 (l + 3) i = (Int32.ofNat (E (i + 1))) ∧ h.2 (l + 1) i = bi (W (416 + 4 * i) = (Int32.ofNat 2)) ∧ h.2 (l + 2) i = (if W (416 + 4 * i) = (Int32.ofNat 1) then - W (416 + 4 * i + 1) else W (416 + 4 * i + 1))) ∧ ∀ j, j < E L → cR (h.2 (l + 4) j) (K j) (n j)
/-- the kinds of lines are told by 0 and 1 -/
def lb (h : am_H) (l : Nat) : Prop := ∀ i, i < 12 → h.2 (l + 1) i = (Int32.ofNat 0) ∨ h.2 (l + 1) i = (Int32.ofNat 1)
def RelL (h : am_H) (l : Nat) (W : Nat → Int32) : Prop := lb h l ∧ ((W 2 = (Int32.ofNat 0) ∧ h.2 l 6 = -1) ∨ (W 2 = (Int32.ofNat 1) ∧ ∃ L E K n, lawT W L E K n ∧ lawC h l W L E K n))
theorem E_mono {E : Nat → Nat} {L : Nat} (h : ∀ i, i < L → E i ≤ E (i + 1)) : ∀ (k i : Nat), i + k ≤ L → E i ≤ E (i + k) := by
  intro k
  induction k with
  | zero => intro i _; exact Nat.le_refl _
  | succ k ih => intro i hi; exact Nat.le_trans (ih i (by omega)) (h (i + k) (by omega))
theorem lawT.le {W : Nat → Int32} {L : Nat} {E K : Nat → Nat} {n : Nat → Int32} (T : lawT W L E K n) {i : Nat} (hi : i ≤ L) : E i ≤ E L := by
  have := E_mono T.2.2.2.2.1 (L - i) i (by omega)
  rwa [show i + (L - i) = L by omega] at this
/-- whether a line holds -/
def hldb (W : Nat → Int32) (c : Nat) (K : Nat → Nat) (n : Nat → Int32) (a b : Nat) : Bool := decide (a = b ∨ (evR (fct W c) K n (b - a) a ((fun _ => (Int32.ofNat 0)), 0)).1 0 = (Int32.ofNat 1))
theorem hldb_eq {W : Nat → Int32} {c : Nat} {K : Nat → Nat} {n : Nat → Int32} {a : Nat} : hldb W c K n a a = true := decide_eq_true (Or.inl rfl)
theorem hldb_ne {W : Nat → Int32} {c : Nat} {K : Nat → Nat} {n : Nat → Int32} {a b : Nat} (h : a ≠ b) : bi (hldb W c K n a b = true) = bi ((evR (fct W c) K n (b - a) a ((fun _ => (Int32.ofNat 0)), 0)).1 0 = (Int32.ofNat 1)) := by
  apply bi_congr
  unfold hldb
  rw [decide_eq_true_iff]
  exact ⟨fun q => q.resolve_left h, fun q => Or.inr q⟩
theorem rR_holdsLine {h : am_H} {L : Nat} {E K : Nat → Nat} {n : Nat → Int32} (T : lawT (h.2 374) L E K n) {c i : Nat} (hc : c < 8) (hi : i < 9) (ei : h.2 374 (43 + 9 * c + 1) = (Int32.ofNat i)) {line : Nat} (hl : line < L) (f : Nat → Int32) (d : Nat) : ∃ f', am_cl (d + 5) qR_holdsLine [.ref 373, .int (Int32.ofNat line), .int (Int32.ofNat c)] (cw h 381 f) = some (.inl (some (bi (hldb (h.2 374) c K n (E line) (E (line + 1)) = true))), cw h 381 f') := by
  have hE1 := T.le (i := line) (by omega)
  have hE2 := T.le (i := line + 1) (by omega)
  obtain ⟨t1, t2, t3, t4, t5, t6, t7, t8⟩ := T
  obtain ⟨e2, e3, -, -⟩ := t6 line hl
  have hE := t5 line hl
  by_cases hq : E line = E (line + 1)
  · refine ⟨f, ?_⟩
    rw [← hq, hldb_eq]
    rw [← hq] at e3
    simp -implicitDefEqProofs (disch := (first | omega | assumption | exact am_isS_3 | exact am_isS_25 | exact am_isX_356 | exact am_isX_359)) only [uR_holdsLine, ggR_holdsLine_1, ggR_holdsLine_0, ggR_holdsLine_2, ggR_holdsLine_3, ggR_holdsLine_4, ggR_holdsLine_5, ggR_holdsLine_6, ggR_holdsLine_7, ggR_holdsLine_8, ggR_holdsLine_9, ggR_holdsLine_10, ggR_holdsLine_11, ggR_holdsLine_12, ggR_holdsLine_13, ggR_holdsLine_14, ggR_holdsLine_15, ggR_holdsLine_16, ggR_holdsLine_17, ggR_holdsLine_18, ggR_holdsLine_19, ggR_holdsLine_20, ggR_holdsLine_21, ggR_holdsLine_22, ggR_holdsLine_23, ggR_holdsLine_24, ggR_holdsLine_25, ggR_holdsLine_26, ggR_holdsLine_27, ggR_holdsLine_28, ggR_holdsLine_29, ggR_holdsLine_30, ggR_holdsLine_31, ggR_holdsLine_32, ccR_holdsLine_3_1, cw_ne, e2, e3, am_kI_x, am_kV_x, am_kI_i, am_nI_i, am_kV_i, am_nV_i, ↓reduceIte, eq_self, if_true, if_false, c_in, c_tn, pn_add, pn_mul, pn_subc, pn_addm, c_le_t, c_le_f, c_lt_t, c_lt_f, c_eq_f, c_eqm, bi_z, bi_1, bi_b, bi_T, bi_F, ite_not, up_eq, up_ne, or_self, or_true, true_or, or_false, false_or, and_true, true_and, and_self, not_true_eq_false, not_false_eq_true, Bool.false_eq_true]
  · rw [hldb_ne hq]
    have key := rR_holds_l (K := K) (n := n) hc hi ei (show line < 12 by omega) (show E (line + 1) ≤ 400 by omega) e3 (fun j hj => t7 j (by omega)) d (E (line + 1) - E line) (E line) [] f (fun _ => (Int32.ofNat 0)) (by omega) ((t8 line hl).resolve_left hq) trivial (fun i hi => by simp at hi) .null .null .null .null
    obtain ⟨f', e⟩ := key
    refine ⟨f', ?_⟩
    simp -implicitDefEqProofs (disch := (first | omega | assumption | exact am_isS_3 | exact am_isS_25 | exact am_isX_356 | exact am_isX_359)) only [uR_holdsLine, ggR_holdsLine_0, ggR_holdsLine_2, ggR_holdsLine_3, ggR_holdsLine_4, ggR_holdsLine_5, ggR_holdsLine_6, ggR_holdsLine_7, ggR_holdsLine_8, ggR_holdsLine_9, ggR_holdsLine_10, ggR_holdsLine_11, ggR_holdsLine_12, ggR_holdsLine_13, ggR_holdsLine_14, ggR_holdsLine_15, ggR_holdsLine_16, ggR_holdsLine_17, ggR_holdsLine_18, ggR_holdsLine_19, ggR_holdsLine_20, ggR_holdsLine_21, ggR_holdsLine_22, ggR_holdsLine_23, ggR_holdsLine_24, ggR_holdsLine_25, ggR_holdsLine_26, ggR_holdsLine_27, ggR_holdsLine_28, ggR_holdsLine_29, ggR_holdsLine_30, ggR_holdsLine_31, ggR_holdsLine_32, ccR_holdsLine_3_1, cw_ne, e2, am_kI_x, am_kV_x, am_kI_i, am_nI_i, am_kV_i, am_nV_i, ↓reduceIte, eq_self, if_true, if_false, c_in, c_tn, pn_add, pn_mul, pn_subc, pn_addm, c_le_t, c_le_f, c_lt_t, c_lt_f, c_eq_f, c_eqm, bi_z, bi_1, bi_b, bi_T, bi_F, ite_not, up_eq, up_ne, or_self, or_true, true_or, or_false, false_or, and_true, true_and, and_self, not_true_eq_false, not_false_eq_true, Bool.false_eq_true]
    exact e
/-- the sum of the lines of a kind that hold -/
def lsum (W : Nat → Int32) (c : Nat) (E K : Nat → Nat) (n : Nat → Int32) (q L : Nat) : Int32 := itr (fun i s => if W (416 + 4 * i) = (Int32.ofNat q) ∧ hldb W c K n (E i) (E (i + 1)) = true then s + W (416 + 4 * i + 1) else s) L 0 (Int32.ofNat 0)
theorem rR_sumOf_l {h : am_H} {L : Nat} {E K : Nat → Nat} {n : Nat → Int32} (T : lawT (h.2 374) L E K n) (e2 : h.2 374 2 = (Int32.ofNat 1)) {c i : Nat} (hc : c < 8) (hi : i < 9) (ei : h.2 374 (43 + 9 * c + 1) = (Int32.ofNat i)) {q : Nat} (hq : q < 3) (d : Nat) : ∀ (k j : Nat) (s : Int32) (f : Nat → Int32), j + k = L → ∃ f', am_go (am_cl (d + 5)) qR_sumOf 1 [.ref 373, .int (Int32.ofNat q), .int (Int32.ofNat c), .int s, .int (Int32.ofNat j)] [] (cw h 381 f) = some (.inl (some (itr (fun i s => if h.2 374 (416 + 4 * i) = (Int32.ofNat q) ∧ hldb (h.2 374) c K n (E i) (E (i + 1)) = true then s + h.2 374 (416 + 4 * i + 1) else s) k j s)), cw h 381 f') := by
  have t2 := T.2.1
  have t1 := T.1
  intro k
  induction k with
  | zero =>
    intro j s f hj
    have ej : j = L := by omega
    subst ej
    refine ⟨f, ?_⟩
    rw [ggR_sumOf_1]
    simp -implicitDefEqProofs (disch := (first | omega | assumption | exact am_isS_3 | exact am_isS_25 | exact am_isX_356 | exact am_isX_359)) only [ggR_sumOf_0, ggR_sumOf_2, ggR_sumOf_3, ggR_sumOf_4, ggR_sumOf_5, ggR_sumOf_6, ggR_sumOf_7, ccR_sumOf_4_1, cw_ne, e2, t2, itr, am_kI_x, am_kV_x, am_kI_i, am_nI_i, am_kV_i, am_nV_i, ↓reduceIte, eq_self, if_true, if_false, c_in, c_tn, pn_add, pn_mul, pn_subc, pn_addm, c_le_t, c_le_f, c_lt_t, c_lt_f, c_eq_f, c_eqm, bi_z, bi_1, bi_b, bi_T, bi_F, ite_not, up_eq, up_ne, or_self, or_true, true_or, or_false, false_or, and_true, true_and, and_self, not_true_eq_false, not_false_eq_true, Bool.false_eq_true]
  | succ k ih =>
    intro j s f hj
    obtain ⟨f1, e1⟩ := rR_holdsLine T hc hi ei (line := j) (by omega) f d
    by_cases h1 : h.2 374 (416 + 4 * j) = (Int32.ofNat q)
    · by_cases h3 : hldb (h.2 374) c K n (E j) (E (j + 1)) = true
      · obtain ⟨f2, e3⟩ := ih (j + 1) (s + h.2 374 (416 + 4 * j + 1)) f1 (by omega)
        refine ⟨f2, ?_⟩
        rw [ggR_sumOf_1]
        simp -implicitDefEqProofs (disch := (first | omega | assumption | exact am_isS_3 | exact am_isS_25 | exact am_isX_356 | exact am_isX_359)) only [ggR_sumOf_0, ggR_sumOf_2, ggR_sumOf_3, ggR_sumOf_4, ggR_sumOf_5, ggR_sumOf_6, ggR_sumOf_7, ccR_sumOf_4_1, cw_ne, e2, t2, h1, h3, e1, itr, am_kI_x, am_kV_x, am_kI_i, am_nI_i, am_kV_i, am_nV_i, ↓reduceIte, eq_self, if_true, if_false, c_in, c_tn, pn_add, pn_mul, pn_subc, pn_addm, c_le_t, c_le_f, c_lt_t, c_lt_f, c_eq_f, c_eqm, bi_z, bi_1, bi_b, bi_T, bi_F, ite_not, up_eq, up_ne, or_self, or_true, true_or, or_false, false_or, and_true, true_and, and_self, not_true_eq_false, not_false_eq_true, Bool.false_eq_true]
        exact e3
      · obtain ⟨f2, e3⟩ := ih (j + 1) s f1 (by omega)
        refine ⟨f2, ?_⟩
        rw [ggR_sumOf_1]
        simp -implicitDefEqProofs (disch := (first | omega | assumption | exact am_isS_3 | exact am_isS_25 | exact am_isX_356 | exact am_isX_359)) only [ggR_sumOf_0, ggR_sumOf_2, ggR_sumOf_3, ggR_sumOf_4, ggR_sumOf_5, ggR_sumOf_6, ggR_sumOf_7, ccR_sumOf_4_1, cw_ne, e2, t2, h1, h3, e1, itr, Bool.false_eq_true, am_kI_x, am_kV_x, am_kI_i, am_nI_i, am_kV_i, am_nV_i, ↓reduceIte, eq_self, if_true, if_false, c_in, c_tn, pn_add, pn_mul, pn_subc, pn_addm, c_le_t, c_le_f, c_lt_t, c_lt_f, c_eq_f, c_eqm, bi_z, bi_1, bi_b, bi_T, bi_F, ite_not, up_eq, up_ne, or_self, or_true, true_or, or_false, false_or, and_true, true_and, and_self, not_true_eq_false, not_false_eq_true, Bool.false_eq_true]
        exact e3
    · obtain ⟨f2, e3⟩ := ih (j + 1) s f (by omega)
      refine ⟨f2, ?_⟩
      rw [ggR_sumOf_1]
      simp -implicitDefEqProofs (disch := (first | omega | assumption | exact am_isS_3 | exact am_isS_25 | exact am_isX_356 | exact am_isX_359)) only [ggR_sumOf_0, ggR_sumOf_2, ggR_sumOf_3, ggR_sumOf_4, ggR_sumOf_5, ggR_sumOf_6, ggR_sumOf_7, ccR_sumOf_4_1, cw_ne, e2, t2, h1, itr, false_and, am_kI_x, am_kV_x, am_kI_i, am_nI_i, am_kV_i, am_nV_i, ↓reduceIte, eq_self, if_true, if_false, c_in, c_tn, pn_add, pn_mul, pn_subc, pn_addm, c_le_t, c_le_f, c_lt_t, c_lt_f, c_eq_f, c_eqm, bi_z, bi_1, bi_b, bi_T, bi_F, ite_not, up_eq, up_ne, or_self, or_true, true_or, or_false, false_or, and_true, true_and, and_self, not_true_eq_false, not_false_eq_true, Bool.false_eq_true]
      exact e3
theorem rR_sumOf {h : am_H} {L : Nat} {E K : Nat → Nat} {n : Nat → Int32} (T : lawT (h.2 374) L E K n) (e2 : h.2 374 2 = (Int32.ofNat 1)) {c i : Nat} (hc : c < 8) (hi : i < 9) (ei : h.2 374 (43 + 9 * c + 1) = (Int32.ofNat i)) {q : Nat} (hq : q < 3) (f : Nat → Int32) (d : Nat) : ∃ f', am_cl (d + 6) qR_sumOf [.ref 373, .int (Int32.ofNat q), .int (Int32.ofNat c)] (cw h 381 f) = some (.inl (some (lsum (h.2 374) c E K n q L)), cw h 381 f') := by
  obtain ⟨f', e⟩ := rR_sumOf_l T e2 hc hi ei hq d L 0 (Int32.ofNat 0) f (by omega)
  refine ⟨f', ?_⟩
  rw [uR_sumOf, ggR_sumOf_0]
  exact e
theorem rR_sumOf0 {h : am_H} (e2 : h.2 374 2 = (Int32.ofNat 0)) (q c : Int32) (d : Nat) : am_cl (d + 6) qR_sumOf [.ref 373, .int q, .int c] h = some (.inl (some ((Int32.ofNat 0))), h) := by
  simp -implicitDefEqProofs (disch := (first | omega | assumption | exact am_isS_3 | exact am_isS_25 | exact am_isX_356 | exact am_isX_359)) only [uR_sumOf, ggR_sumOf_1, ggR_sumOf_0, ggR_sumOf_2, ggR_sumOf_3, ggR_sumOf_4, ggR_sumOf_5, ggR_sumOf_6, ggR_sumOf_7, ccR_sumOf_4_1, e2, am_kI_x, am_kV_x, am_kI_i, am_nI_i, am_kV_i, am_nV_i, ↓reduceIte, eq_self, if_true, if_false, c_in, c_tn, pn_add, pn_mul, pn_subc, pn_addm, c_le_t, c_le_f, c_lt_t, c_lt_f, c_eq_f, c_eqm, bi_z, bi_1, bi_b, bi_T, bi_F, ite_not, up_eq, up_ne, or_self, or_true, true_or, or_false, false_or, and_true, true_and, and_self, not_true_eq_false, not_false_eq_true, Bool.false_eq_true]
