/-! next, span -/
theorem lo_all : (List.range 256).all (fun m => decide (m = 0) || (decide (ntzN 10 m < 8) && (List.range (ntzN 10 m)).all (fun c => decide ((Int32.ofNat m >>> (Int32.ofNat c &&& Int32.ofNat 31)) &&& Int32.ofNat 1 = Int32.ofNat 0)) && decide (¬ (Int32.ofNat m >>> (Int32.ofNat (ntzN 10 m) &&& Int32.ofNat 31)) &&& Int32.ofNat 1 = Int32.ofNat 0))) = true := by decide +kernel
theorem lo_at {m : Nat} (hm : m < 256) (h0 : m ≠ 0) : ntzN 10 m < 8 ∧ (∀ c, c < ntzN 10 m → ((Int32.ofNat m) >>> ((Int32.ofNat c) &&& (Int32.ofNat 31))) &&& (Int32.ofNat 1) = (Int32.ofNat 0)) ∧ ¬ ((Int32.ofNat m) >>> ((Int32.ofNat (ntzN 10 m)) &&& (Int32.ofNat 31))) &&& (Int32.ofNat 1) = (Int32.ofNat 0) := by
  have := List.all_eq_true.mp lo_all m (List.mem_range.mpr hm)
  rw [decide_eq_false h0, Bool.false_or, Bool.and_eq_true, Bool.and_eq_true] at this
  exact ⟨of_decide_eq_true this.1.1, fun c hc => of_decide_eq_true (List.all_eq_true.mp this.1.2 c (List.mem_range.mpr hc)), of_decide_eq_true this.2⟩
theorem xF_leastOf {m : Nat} (hm : m < 256) (h0 : m ≠ 0) (d : Nat) (h : am_H) : am_cl (d + 1) qF_leastOf [.int (Int32.ofNat m)] h = some (.inl (some ((Int32.ofNat (ntzN 10 m)))), h) := by
  obtain ⟨a, b, c⟩ := lo_at hm h0
  have l : ∀ k i, i + k = ntzN 10 m → am_go (am_cl d) qF_leastOf 1 [.int (Int32.ofNat m), .int (Int32.ofNat i)] [] h = some (.inl (some ((Int32.ofNat (ntzN 10 m)))), h) := by
    intro k
    induction k with
    | zero =>
      intro i hi
      have hi : i = ntzN 10 m := by omega
      subst hi
      rw [ggF_leastOf_1]
      simp -implicitDefEqProofs (disch := (first | omega | assumption | exact am_isS_3 | exact am_isS_25 | exact am_isX_356 | exact am_isX_359)) only [ggF_leastOf_0, ggF_leastOf_2, ggF_leastOf_3, ggF_leastOf_4, ggF_leastOf_5, c, am_kI_x, am_kV_x, am_kI_i, am_nI_i, am_kV_i, am_nV_i, ↓reduceIte, eq_self, if_true, if_false, c_in, c_tn, pn_add, pn_mul, pn_subc, pn_addm, c_le_t, c_le_f, c_lt_t, c_lt_f, c_eq_f, c_eqm, bi_z, bi_1, bi_b, bi_T, bi_F, ite_not, up_eq, up_ne, or_self, or_true, true_or, or_false, false_or, and_true, true_and, and_self, not_true_eq_false, not_false_eq_true, Bool.false_eq_true]
    | succ k ih =>
      intro i hi
      have e := b i (by omega)
      have ih := ih (i + 1) (by omega)
      rw [ggF_leastOf_1]
      simp -implicitDefEqProofs (disch := (first | omega | assumption | exact am_isS_3 | exact am_isS_25 | exact am_isX_356 | exact am_isX_359)) only [ggF_leastOf_0, ggF_leastOf_2, ggF_leastOf_3, ggF_leastOf_4, ggF_leastOf_5, e, am_kI_x, am_kV_x, am_kI_i, am_nI_i, am_kV_i, am_nV_i, ↓reduceIte, eq_self, if_true, if_false, c_in, c_tn, pn_add, pn_mul, pn_subc, pn_addm, c_le_t, c_le_f, c_lt_t, c_lt_f, c_eq_f, c_eqm, bi_z, bi_1, bi_b, bi_T, bi_F, ite_not, up_eq, up_ne, or_self, or_true, true_or, or_false, false_or, and_true, true_and, and_self, not_true_eq_false, not_false_eq_true, Bool.false_eq_true]
      exact ih
  rw [uF_leastOf, ggF_leastOf_0]
  exact l (ntzN 10 m) 0 (by omega)
theorem z0_all : ∀ c : Fin 8, (((Int32.ofNat 0) : Int32) >>> ((Int32.ofNat (c.val)) &&& (Int32.ofNat 31))) &&& (Int32.ofNat 1) = (Int32.ofNat 0) := by decide
theorem xF_leastOf0 (d : Nat) (h : am_H) : am_cl (d + 1) qF_leastOf [.int (Int32.ofNat 0)] h = some (.inl (some (-1)), h) := by
  have l : ∀ k i, i + k = 8 → am_go (am_cl d) qF_leastOf 1 [.int (Int32.ofNat 0), .int (Int32.ofNat i)] [] h = some (.inl (some (-1)), h) := by
    intro k
    induction k with
    | zero =>
      intro i hi
      have hi : i = 8 := by omega
      subst hi
      rw [ggF_leastOf_1]
      simp -implicitDefEqProofs (disch := (first | omega | assumption | exact am_isS_3 | exact am_isS_25 | exact am_isX_356 | exact am_isX_359)) only [ggF_leastOf_0, ggF_leastOf_2, ggF_leastOf_3, ggF_leastOf_4, ggF_leastOf_5, am_kI_x, am_kV_x, am_kI_i, am_nI_i, am_kV_i, am_nV_i, ↓reduceIte, eq_self, if_true, if_false, c_in, c_tn, pn_add, pn_mul, pn_subc, pn_addm, c_le_t, c_le_f, c_lt_t, c_lt_f, c_eq_f, c_eqm, bi_z, bi_1, bi_b, bi_T, bi_F, ite_not, up_eq, up_ne, or_self, or_true, true_or, or_false, false_or, and_true, true_and, and_self, not_true_eq_false, not_false_eq_true, Bool.false_eq_true]
    | succ k ih =>
      intro i hi
      have e := z0_all ⟨i, by omega⟩
      have ih := ih (i + 1) (by omega)
      rw [ggF_leastOf_1]
      simp -implicitDefEqProofs (disch := (first | omega | assumption | exact am_isS_3 | exact am_isS_25 | exact am_isX_356 | exact am_isX_359)) only [ggF_leastOf_0, ggF_leastOf_2, ggF_leastOf_3, ggF_leastOf_4, ggF_leastOf_5, e, am_kI_x, am_kV_x, am_kI_i, am_nI_i, am_kV_i, am_nV_i, ↓reduceIte, eq_self, if_true, if_false, c_in, c_tn, pn_add, pn_mul, pn_subc, pn_addm, c_le_t, c_le_f, c_lt_t, c_lt_f, c_eq_f, c_eqm, bi_z, bi_1, bi_b, bi_T, bi_F, ite_not, up_eq, up_ne, or_self, or_true, true_or, or_false, false_or, and_true, true_and, and_self, not_true_eq_false, not_false_eq_true, Bool.false_eq_true]
      exact ih
  rw [uF_leastOf, ggF_leastOf_0]
  exact l 8 0 (by omega)
theorem cnt_mono {p q : Nat → Bool} : ∀ {N : Nat}, (∀ c, c < N → p c = true → q c = true) → cnt p N ≤ cnt q N ∧ (cnt p N = cnt q N → ∀ c, c < N → p c = q c) := by
  intro N
  induction N with
  | zero => intro _; exact ⟨Nat.le_refl _, fun _ c hc => by omega⟩
  | succ n ih =>
    intro h
    obtain ⟨a, b⟩ := ih (fun c hc => h c (by omega))
    have hn := h n (by omega)
    show cnt p n + _ ≤ cnt q n + _ ∧ (cnt p n + _ = cnt q n + _ → _)
    cases hp : p n with
    | true =>
      rw [hn hp]
      refine ⟨by simp; exact a, fun e c hc => ?_⟩
      simp at e
      by_cases h1 : c = n
      · rw [h1, hp, hn hp]
      · exact b e c (by omega)
    | false =>
      cases hq : q n with
      | true =>
        refine ⟨by simp; omega, fun e => ?_⟩
        simp at e
        omega
      | false =>
        refine ⟨by simp; exact a, fun e c hc => ?_⟩
        simp at e
        by_cases h1 : c = n
        · rw [h1, hp, hq]
        · exact b e c (by omega)
theorem bs_diff (p q : Nat → Bool) {N : Nat} (hN : N ≤ 8) : bset q N &&& (bset p N ^^^ -1) = bset (fun c => q c && !p c) N := by
  apply tb_ext
  intro c hc
  rw [tb_and, tb_not _ hc, tb_bset _ (by omega) hc, tb_bset _ (by omega) hc, tb_bset _ (by omega) hc]
  cases decide (c < N) <;> simp
theorem bsN_zero {p : Nat → Bool} : ∀ {N : Nat}, bsN p N = 0 ↔ ∀ c, c < N → p c = false := by
  intro N
  induction N with
  | zero => exact ⟨fun _ c hc => by omega, fun _ => rfl⟩
  | succ n ih =>
    show bsN p n + _ = 0 ↔ _
    have hp : 0 < 2 ^ n := Nat.pow_pos (by omega)
    constructor
    · intro e c hc
      by_cases h1 : c = n
      · rw [h1]
        cases h : p n with
        | false => rfl
        | true => rw [h] at e; simp at e
      · exact ih.mp (by omega) c (by omega)
    · intro h
      rw [h n (by omega), ih.mpr (fun c hc => h c (by omega))]
      rfl
theorem next_l {N G : Nat} {W0 : Nat → Int32} {D : Nat} (hD : 20 ≤ D) : ∀ (k i : Nat) (hC hR : am_H) (x4 : Value), i + k = 101 → Lk hC hR 25 N G → RelS hC 3 W0 N G → (∀ c, c < N → hR.2 374 (43 + 9 * c + 7) = W0 (43 + 9 * c + 7)) → ∃ v hC' hR', RelL hC' 335 (hR'.2 374) ∧ frC 25 hC hC' ∧ frR hR hR' ∧ am_go (am_cl (D - 4 + 4)) qF_next 1 [.ref 0, .int (Int32.ofNat i), .null] [] hC = some (.inl (some (v)), hC') ∧ am_go (am_cl (D - 4 + 4)) qR_next 1 [.ref 373, .int (bset (fun c => decide (W0 (43 + 9 * c + 7) = (Int32.ofNat 1))) N), .int (-1), .int (Int32.ofNat i), x4] [] hR = some (.inl (some (v)), given hR') := by
  intro k
  induction k with
  | zero =>
    intro i hC hR x4 hi L S0 hw
    have hi : i = 101 := by omega
    subst hi
    refine ⟨-1, hC, hR, L.2.2.2.2, frC.rf, frR.rf, ?_, ?_⟩
    · rw [ggF_next_1]
      simp -implicitDefEqProofs (disch := (first | omega | assumption | exact am_isS_3 | exact am_isS_25 | exact am_isX_356 | exact am_isX_359)) only [ggF_next_0, ggF_next_2, ggF_next_3, ggF_next_4, ggF_next_5, ccF_next_0_1, ccF_next_2_1, ccF_next_3_3, ccF_next_3_2, ccF_next_3_1, am_kI_x, am_kV_x, am_kI_i, am_nI_i, am_kV_i, am_nV_i, ↓reduceIte, eq_self, if_true, if_false, c_in, c_tn, pn_add, pn_mul, pn_subc, pn_addm, c_le_t, c_le_f, c_lt_t, c_lt_f, c_eq_f, c_eqm, bi_z, bi_1, bi_b, bi_T, bi_F, ite_not, up_eq, up_ne, or_self, or_true, true_or, or_false, false_or, and_true, true_and, and_self, not_true_eq_false, not_false_eq_true, Bool.false_eq_true]
    · rw [ggR_next_1]
      simp -implicitDefEqProofs (disch := (first | omega | assumption | exact am_isS_3 | exact am_isS_25 | exact am_isX_356 | exact am_isX_359)) only [ggR_next_0, ggR_next_2, ggR_next_3, ggR_next_4, ggR_next_5, ggR_next_6, ggR_next_7, ccR_next_0_2, ccR_next_0_1, ccR_next_3_2, ccR_next_3_1, ccR_next_5_1, ccR_next_7_1, rR_bb, am_kI_x, am_kV_x, am_kI_i, am_nI_i, am_kV_i, am_nV_i, ↓reduceIte, eq_self, if_true, if_false, c_in, c_tn, pn_add, pn_mul, pn_subc, pn_addm, c_le_t, c_le_f, c_lt_t, c_lt_f, c_eq_f, c_eqm, bi_z, bi_1, bi_b, bi_T, bi_F, ite_not, up_eq, up_ne, or_self, or_true, true_or, or_false, false_or, and_true, true_and, and_self, not_true_eq_false, not_false_eq_true, Bool.false_eq_true]
  | succ k ih =>
    intro i hC hR x4 hi L S0 hw
    have hN := L.1.1
    obtain ⟨g, hC1, hR1, g1, L1, f1, f2, mo, e1, e2⟩ := pass_calm am_isS_25 (by omega) L 0
    have e1 := am_cl_le (d' := D - 4 + 4) (by omega) e1
    have e2 := am_cl_le (d' := D - 4 + 4) (by omega) e2
    have S1 : RelS hC1 3 W0 N G := S0.frame (fun p q1 q2 => f1.2 p (by omega) (by omega) (by omega))
    obtain ⟨R, okt, okc, okk, RL⟩ := id L
    obtain ⟨R1, okt1, okc1, okk1, RL1⟩ := id L1
    have cm := cnt_mono (p := fun c => decide (hR.2 374 (43 + 9 * c + 7) = (Int32.ofNat 1))) (q := fun c => decide (hR1.2 374 (43 + 9 * c + 7) = (Int32.ofNat 1))) (N := N) (fun c hc q => decide_eq_true (mo c hc (of_decide_eq_true q)))
    rw [okk.2.2, okk1.2.2] at cm
    have ep : bset (fun c => decide (W0 (43 + 9 * c + 7) = (Int32.ofNat 1))) N = bset (fun c => decide (hR.2 374 (43 + 9 * c + 7) = (Int32.ofNat 1))) N := bset_congr (fun c hc => by rw [hw c hc])
    have ed := bs_diff (fun c => decide (W0 (43 + 9 * c + 7) = (Int32.ofNat 1))) (fun c => decide (hR1.2 374 (43 + 9 * c + 7) = (Int32.ofNat 1))) hN
    have eN := (bset_N (fun c => decide (hR1.2 374 (43 + 9 * c + 7) = (Int32.ofNat 1)) && !decide (W0 (43 + 9 * c + 7) = (Int32.ofNat 1))) (N := N) (by omega)).1
    rw [eN] at ed
    have r31 := R1.2.2.1
    have o1 := rR_openedOnes hN r31
    by_cases h0 : g = 0
    · subst h0
      have same := cm.2 (by omega)
      have hw1 : ∀ c, c < N → hR1.2 374 (43 + 9 * c + 7) = W0 (43 + 9 * c + 7) := fun c hc => by
        rw [← hw c hc]
        have s := decide_eq_decide.mp (same c hc)
        obtain ⟨w, hw2, ew⟩ := (okc c hc).2.2.2.2.2.2.2.1
        obtain ⟨w1, hw3, ew1⟩ := (okc1 c hc).2.2.2.2.2.2.2.1
        rw [ew, ew1] at s ⊢
        rcases (show w = 0 ∨ w = 1 by omega) with rfl | rfl
        · rcases (show w1 = 0 ∨ w1 = 1 by omega) with rfl | rfl
          · rfl
          · exact (s.mpr rfl).symm ▸ rfl
        · rcases (show w1 = 0 ∨ w1 = 1 by omega) with rfl | rfl
          · exact s.mp rfl
          · rfl
      have z : bsN (fun c => decide (hR1.2 374 (43 + 9 * c + 7) = (Int32.ofNat 1)) && !decide (W0 (43 + 9 * c + 7) = (Int32.ofNat 1))) N = 0 := bsN_zero.mpr (fun c hc => by
        show (decide (hR1.2 374 (43 + 9 * c + 7) = (Int32.ofNat 1)) && !decide (W0 (43 + 9 * c + 7) = (Int32.ofNat 1))) = false
        rw [hw1 c hc]
        cases decide (W0 (43 + 9 * c + 7) = (Int32.ofNat 1)) <;> rfl)
      rw [z] at ed
      obtain ⟨v, hC2, hR2, L2, f3, f4, e3, e4⟩ := ih (i + 1) hC1 hR1 (.int (Int32.ofNat 0)) (by omega) L1 S1 hw1
      refine ⟨v, hC2, hR2, L2, f1.tr f3, f2.tr f4, ?_, ?_⟩
      · rw [← e3, ggF_next_1]
        simp -implicitDefEqProofs (disch := (first | omega | assumption | exact am_isS_3 | exact am_isS_25 | exact am_isX_356 | exact am_isX_359)) only [ggF_next_0, ggF_next_2, ggF_next_3, ggF_next_4, ggF_next_5, ccF_next_0_1, ccF_next_2_1, ccF_next_3_3, ccF_next_3_2, ccF_next_3_1, e1, am_kI_x, am_kV_x, am_kI_i, am_nI_i, am_kV_i, am_nV_i, ↓reduceIte, eq_self, if_true, if_false, c_in, c_tn, pn_add, pn_mul, pn_subc, pn_addm, c_le_t, c_le_f, c_lt_t, c_lt_f, c_eq_f, c_eqm, bi_z, bi_1, bi_b, bi_T, bi_F, ite_not, up_eq, up_ne, or_self, or_true, true_or, or_false, false_or, and_true, true_and, and_self, not_true_eq_false, not_false_eq_true, Bool.false_eq_true]
      · rw [← e4, ggR_next_1]
        simp -implicitDefEqProofs (disch := (first | omega | assumption | exact am_isS_3 | exact am_isS_25 | exact am_isX_356 | exact am_isX_359)) only [ggR_next_0, ggR_next_2, ggR_next_3, ggR_next_4, ggR_next_5, ggR_next_6, ggR_next_7, ccR_next_0_2, ccR_next_0_1, ccR_next_3_2, ccR_next_3_1, ccR_next_5_1, ccR_next_7_1, e2, o1, ed, am_kI_x, am_kV_x, am_kI_i, am_nI_i, am_kV_i, am_nV_i, ↓reduceIte, eq_self, if_true, if_false, c_in, c_tn, pn_add, pn_mul, pn_subc, pn_addm, c_le_t, c_le_f, c_lt_t, c_lt_f, c_eq_f, c_eqm, bi_z, bi_1, bi_b, bi_T, bi_F, ite_not, up_eq, up_ne, or_self, or_true, true_or, or_false, false_or, and_true, true_and, and_self, not_true_eq_false, not_false_eq_true, Bool.false_eq_true]
    · have nz : bsN (fun c => decide (hR1.2 374 (43 + 9 * c + 7) = (Int32.ofNat 1)) && !decide (W0 (43 + 9 * c + 7) = (Int32.ofNat 1))) N ≠ 0 := fun z => by
        have z := bsN_zero.mp z
        have cm2 := cnt_mono (p := fun c => decide (hR1.2 374 (43 + 9 * c + 7) = (Int32.ofNat 1))) (q := fun c => decide (hR.2 374 (43 + 9 * c + 7) = (Int32.ofNat 1))) (N := N) (fun c hc q => by
          have z := z c hc
          have q : decide (hR1.2 374 (43 + 9 * c + 7) = (Int32.ofNat 1)) = true := q
          rw [q] at z
          rw [hw c hc]
          cases hd : decide (W0 (43 + 9 * c + 7) = (Int32.ofNat 1)) with
          | true => rfl
          | false => rw [hd] at z; cases z)
        rw [okk.2.2, okk1.2.2] at cm2
        have := cm2.1
        omega
      have lt : bsN (fun c => decide (hR1.2 374 (43 + 9 * c + 7) = (Int32.ofNat 1)) && !decide (W0 (43 + 9 * c + 7) = (Int32.ofNat 1))) N < 256 := Nat.lt_of_lt_of_le (bsN_lt _ N) (by
        have := Nat.pow_le_pow_right (n := 2) (by omega) hN
        exact this)
      have zt := ntz_eq (s := bsN (fun c => decide (hR1.2 374 (43 + 9 * c + 7) = (Int32.ofNat 1)) && !decide (W0 (43 + 9 * c + 7) = (Int32.ofNat 1))) N) (by omega) nz
      have t8 := (lo_at lt nz).1
      have b25 := bs_rel R1 (k := 7) (by omega) (Int32.ofNat 1)
      have b3 := bs_rel S1 (k := 7) (by omega) (Int32.ofNat 1)
      have e9 : am_go (am_cl (D - 4 + 4)) qR_next 1 [.ref 373, .int (bset (fun c => decide (W0 (43 + 9 * c + 7) = (Int32.ofNat 1))) N), .int (Int32.ofNat (ntzN 10 (bsN (fun c => decide (hR1.2 374 (43 + 9 * c + 7) = (Int32.ofNat 1)) && !decide (W0 (43 + 9 * c + 7) = (Int32.ofNat 1))) N))), .int (Int32.ofNat (i + 1)), .int (Int32.ofNat (bsN (fun c => decide (hR1.2 374 (43 + 9 * c + 7) = (Int32.ofNat 1)) && !decide (W0 (43 + 9 * c + 7) = (Int32.ofNat 1))) N))] [] hR1 = some (.inl (some ((Int32.ofNat (ntzN 10 (bsN (fun c => decide (hR1.2 374 (43 + 9 * c + 7) = (Int32.ofNat 1)) && !decide (W0 (43 + 9 * c + 7) = (Int32.ofNat 1))) N))))), given hR1) := by
        rw [ggR_next_1]
        by_cases hq : i + 1 = 101
        · simp -implicitDefEqProofs (disch := (first | omega | assumption | exact am_isS_3 | exact am_isS_25 | exact am_isX_356 | exact am_isX_359)) only [ggR_next_0, ggR_next_2, ggR_next_3, ggR_next_4, ggR_next_5, ggR_next_6, ggR_next_7, ccR_next_0_2, ccR_next_0_1, ccR_next_3_2, ccR_next_3_1, ccR_next_5_1, ccR_next_7_1, rR_bb, am_kI_x, am_kV_x, am_kI_i, am_nI_i, am_kV_i, am_nV_i, ↓reduceIte, eq_self, if_true, if_false, c_in, c_tn, pn_add, pn_mul, pn_subc, pn_addm, c_le_t, c_le_f, c_lt_t, c_lt_f, c_eq_f, c_eqm, bi_z, bi_1, bi_b, bi_T, bi_F, ite_not, up_eq, up_ne, or_self, or_true, true_or, or_false, false_or, and_true, true_and, and_self, not_true_eq_false, not_false_eq_true, Bool.false_eq_true]
        · simp -implicitDefEqProofs (disch := (first | omega | assumption | exact am_isS_3 | exact am_isS_25 | exact am_isX_356 | exact am_isX_359)) only [ggR_next_0, ggR_next_2, ggR_next_3, ggR_next_4, ggR_next_5, ggR_next_6, ggR_next_7, ccR_next_0_2, ccR_next_0_1, ccR_next_3_2, ccR_next_3_1, ccR_next_5_1, ccR_next_7_1, rR_bb, am_kI_x, am_kV_x, am_kI_i, am_nI_i, am_kV_i, am_nV_i, ↓reduceIte, eq_self, if_true, if_false, c_in, c_tn, pn_add, pn_mul, pn_subc, pn_addm, c_le_t, c_le_f, c_lt_t, c_lt_f, c_eq_f, c_eqm, bi_z, bi_1, bi_b, bi_T, bi_F, ite_not, up_eq, up_ne, or_self, or_true, true_or, or_false, false_or, and_true, true_and, and_self, not_true_eq_false, not_false_eq_true, Bool.false_eq_true]
      refine ⟨(Int32.ofNat (ntzN 10 (bsN (fun c => decide (hR1.2 374 (43 + 9 * c + 7) = (Int32.ofNat 1)) && !decide (W0 (43 + 9 * c + 7) = (Int32.ofNat 1))) N))), hC1, hR1, RL1, f1, f2, ?_, ?_⟩
      · rw [ggF_next_1]
        simp -implicitDefEqProofs (disch := (first | omega | assumption | exact am_isS_3 | exact am_isS_25 | exact am_isX_356 | exact am_isX_359)) only [ggF_next_0, ggF_next_2, ggF_next_3, ggF_next_4, ggF_next_5, ccF_next_0_1, ccF_next_2_1, ccF_next_3_3, ccF_next_3_2, ccF_next_3_1, e1, sS_bitsOf am_isS_25 hN R1.2.2.2.1, sS_bitsOf am_isS_3 hN S1.2.2.2.1, b25, b3, ed, xF_leastOf lt nz, am_kI_x, am_kV_x, am_kI_i, am_nI_i, am_kV_i, am_nV_i, ↓reduceIte, eq_self, if_true, if_false, c_in, c_tn, pn_add, pn_mul, pn_subc, pn_addm, c_le_t, c_le_f, c_lt_t, c_lt_f, c_eq_f, c_eqm, bi_z, bi_1, bi_b, bi_T, bi_F, ite_not, up_eq, up_ne, or_self, or_true, true_or, or_false, false_or, and_true, true_and, and_self, not_true_eq_false, not_false_eq_true, Bool.false_eq_true]
      · rw [← e9, ggR_next_1]
        simp -implicitDefEqProofs (disch := (first | omega | assumption | exact am_isS_3 | exact am_isS_25 | exact am_isX_356 | exact am_isX_359)) only [ggR_next_0, ggR_next_2, ggR_next_3, ggR_next_4, ggR_next_5, ggR_next_6, ggR_next_7, ccR_next_0_2, ccR_next_0_1, ccR_next_3_2, ccR_next_3_1, ccR_next_5_1, ccR_next_7_1, e2, o1, ed, rR_ntz, zt, am_kI_x, am_kV_x, am_kI_i, am_nI_i, am_kV_i, am_nV_i, ↓reduceIte, eq_self, if_true, if_false, c_in, c_tn, pn_add, pn_mul, pn_subc, pn_addm, c_le_t, c_le_f, c_lt_t, c_lt_f, c_eq_f, c_eqm, bi_z, bi_1, bi_b, bi_T, bi_F, ite_not, up_eq, up_ne, or_self, or_true, true_or, or_false, false_or, and_true, true_and, and_self, not_true_eq_false, not_false_eq_true, Bool.false_eq_true]
theorem T_next : Ans qF_next [.ref 0] qR_next [.ref 373] := by
  intro d hC hR J
  have J0 := J.thr (Int32.ofNat 0)
  obtain ⟨⟨N, G, L⟩, -⟩ := id J0
  have hN := L.1.1
  have r3 := L.1.2.2.1
  obtain ⟨hC1, a1, a2, a3, a4⟩ := copy25 (hC := hC) (d + 117)
  have L1 := (a4 _ N G L).row (hR' := lent (am_up hR 373 0 (Int32.ofNat 0))) lent_374
  have S1 : RelS hC1 3 ((am_up hR 373 0 (Int32.ofNat 0)).2 374) N G := L.1.frame (fun p q1 q2 => a3 p (by omega))
  obtain ⟨v, hC2, hR2, L2, f1, f2, e1, e2⟩ := next_l (D := d + 119) (by omega) 100 1 hC1 (lent (am_up hR 373 0 (Int32.ofNat 0))) .null (by omega) L1 S1 (fun c hc => by rw [lent_374])
  have J3 : J2 hC2 (given hR2) := ahead_end J0 (fun p q1 q2 q3 => by rw [f1.2 p (by omega) q2 q3, a3 p q1]) f2.2 L2
  have q3 : hR2.2 373 = (am_up hR 373 0 (Int32.ofNat 0)).2 373 := (f2.2 373 (by omega) (by omega)).trans (cw_ne (by omega))
  refine ⟨v, hC2, given hR2, J3, f1.1.trans a2, f2.1, ?_, ?_, ?_⟩
  · unfold given
    rw [cw_ne (by omega), q3]; exact up_eq rfl rfl
  · simp -implicitDefEqProofs (disch := (first | omega | assumption | exact am_isS_3 | exact am_isS_25 | exact am_isX_356 | exact am_isX_359)) only [uF_next, ggF_next_0, ggF_next_2, ggF_next_3, ggF_next_4, ggF_next_5, ccF_next_0_1, ccF_next_2_1, ccF_next_3_3, ccF_next_3_2, ccF_next_3_1, a1, am_kI_x, am_kV_x, am_kI_i, am_nI_i, am_kV_i, am_nV_i, ↓reduceIte, eq_self, if_true, if_false, c_in, c_tn, pn_add, pn_mul, pn_subc, pn_addm, c_le_t, c_le_f, c_lt_t, c_lt_f, c_eq_f, c_eqm, bi_z, bi_1, bi_b, bi_T, bi_F, ite_not, up_eq, up_ne, or_self, or_true, true_or, or_false, false_or, and_true, true_and, and_self, not_true_eq_false, not_false_eq_true, Bool.false_eq_true]
    exact e1
  · simp -implicitDefEqProofs (disch := (first | omega | assumption | exact am_isS_3 | exact am_isS_25 | exact am_isX_356 | exact am_isX_359)) only [uR_next, ggR_next_0, ggR_next_2, ggR_next_3, ggR_next_4, ggR_next_5, ggR_next_6, ggR_next_7, ccR_next_0_2, ccR_next_0_1, ccR_next_3_2, ccR_next_3_1, ccR_next_5_1, ccR_next_7_1, rR_openedOnes hN r3, rR_ka, am_kI_x, am_kV_x, am_kI_i, am_nI_i, am_kV_i, am_nV_i, ↓reduceIte, eq_self, if_true, if_false, c_in, c_tn, pn_add, pn_mul, pn_subc, pn_addm, c_le_t, c_le_f, c_lt_t, c_lt_f, c_eq_f, c_eqm, bi_z, bi_1, bi_b, bi_T, bi_F, ite_not, up_eq, up_ne, or_self, or_true, true_or, or_false, false_or, and_true, true_and, and_self, not_true_eq_false, not_false_eq_true, Bool.false_eq_true]
    exact e2
/-- the trial's copy is what is -/
def lentP (hR : am_H) : Prop := ∀ j, j < 415 → hR.2 377 j = hR.2 374 j
theorem lent_P {hR : am_H} : lentP (lent hR) := fun j hj => by
  rw [lent_374]
  unfold lent
  rw [cw_eq, cpy_in (by omega), Nat.sub_zero]
theorem J2_lent {hC hR : am_H} (J : J2 hC hR) : J2 hC (lent hR) := J.of (fun _ _ _ _ _ _ _ _ => rfl) rfl rfl rfl rfl (fun j _ => by rw [lent_374]) (cw_ne (by omega)) (cw_ne (by omega)) (cw_ne (by omega)) (fun i _ => by unfold lent; rw [cw_ne (by omega)])
theorem ahead_end2 {hC hR hC2 hR2 : am_H} (J : J2 hC hR) (P : lentP hR) (f : ∀ p, (p < 25 ∨ 47 ≤ p) → p ≠ 340 → p ≠ 341 → hC2.2 p = hC.2 p) (g : ∀ p, p ≠ 374 → p ≠ 381 → hR2.2 p = hR.2 p) (RL2 : RelL hC2 335 (hR2.2 374)) : J2 hC2 (given hR2) ∧ lentP (given hR2) := by
  have e : lent hR = hR := by
    unfold lent
    have : cpy (hR.2 374) (hR.2 377) 0 415 = hR.2 377 := by
      funext j
      by_cases hj : j < 415
      · rw [cpy_in (by omega), Nat.sub_zero, P j hj]
      · rw [cpy_out (by omega)]
    rw [this, cw_self]
  refine ⟨ahead_end J f (by rw [e]; exact g) RL2, fun j hj => ?_⟩
  unfold given
  rw [cw_ne (by omega), cw_eq, cpy_in (by omega), Nat.sub_zero]
/-- the seed is told on both sides -/
theorem Lk.sd {hC hR : am_H} {o N G : Nat} (ho : o + 22 ≤ 335) (L : Lk hC hR o N G) (v : Int32) : Lk (am_up hC o 7 v) (am_up hR 374 6 v) o N G := by
  obtain ⟨R, okt, okc, okk, RL⟩ := L
  have hN := R.1
  rw [up_cw (h := hR)]
  exact ⟨by rw [cw_eq]; exact R.seed v, by rw [cw_eq]; exact okt.of (fun j h1 h2 => pu_ne h2), by rw [cw_eq]; exact okc.of hN (fun j h1 h2 => pu_ne (by omega)), by rw [cw_eq]; exact okk.of hN (fun j h1 h2 => pu_ne (by omega)), by rw [cw_eq]; exact RL.of (fun q h1 h2 => up_o (by omega)) (pu_ne (by omega)) (fun j h1 h2 => pu_ne (by omega))⟩
theorem span_l {n : Nat} (hn : n ≤ 100) (y : Int32) (d : Nat) : ∀ (k i : Nat) (b : Int32) (hC hR : am_H) (v5 w5 : Value), i + k = 7 → J2 hC hR → lentP hR → (b = -1 ∨ rg b 9) → ∃ v hC' hR', J2 hC' hR' ∧ hC'.1 = hC.1 ∧ hR'.1 = hR.1 ∧ hR'.2 373 = hR.2 373 ∧ am_go (am_cl (d + 119)) qF_span 1 [.ref 0, .int (Int32.ofNat n), .int y, .int b, .int (Int32.ofNat i), v5] [] hC = some (.inl (some (v)), hC') ∧ am_go (am_cl (d + 119)) qR_span 3 [.ref 373, .int (Int32.ofNat n), .int y, .int b, .int (Int32.ofNat i), w5] [] hR = some (.inl (some (v)), hR') := by
  intro k
  induction k with
  | zero =>
    intro i b hC hR v5 w5 hi J P hb
    have hi : i = 7 := by omega
    subst hi
    refine ⟨b, hC, hR, J, rfl, rfl, rfl, ?_, ?_⟩
    · rw [ggF_span_1]
      simp -implicitDefEqProofs (disch := (first | omega | assumption | exact am_isS_3 | exact am_isS_25 | exact am_isX_356 | exact am_isX_359)) only [ggF_span_0, ggF_span_2, ggF_span_3, ggF_span_4, ggF_span_5, ggF_span_6, ggF_span_7, ggF_span_8, ggF_span_9, ccF_span_0_1, ccF_span_2_2, ccF_span_2_1, am_kI_x, am_kV_x, am_kI_i, am_nI_i, am_kV_i, am_nV_i, ↓reduceIte, eq_self, if_true, if_false, c_in, c_tn, pn_add, pn_mul, pn_subc, pn_addm, c_le_t, c_le_f, c_lt_t, c_lt_f, c_eq_f, c_eqm, bi_z, bi_1, bi_b, bi_T, bi_F, ite_not, up_eq, up_ne, or_self, or_true, true_or, or_false, false_or, and_true, true_and, and_self, not_true_eq_false, not_false_eq_true, Bool.false_eq_true]
    · rw [ggR_span_3]
      simp -implicitDefEqProofs (disch := (first | omega | assumption | exact am_isS_3 | exact am_isS_25 | exact am_isX_356 | exact am_isX_359)) only [ggR_span_0, ggR_span_1, ggR_span_2, ggR_span_4, ggR_span_5, ggR_span_6, ggR_span_7, ggR_span_8, ggR_span_9, ggR_span_10, ccR_span_0_2, ccR_span_0_1, ccR_span_2_1, ccR_span_4_4, ccR_span_4_3, ccR_span_4_2, ccR_span_4_1, am_kI_x, am_kV_x, am_kI_i, am_nI_i, am_kV_i, am_nV_i, ↓reduceIte, eq_self, if_true, if_false, c_in, c_tn, pn_add, pn_mul, pn_subc, pn_addm, c_le_t, c_le_f, c_lt_t, c_lt_f, c_eq_f, c_eqm, bi_z, bi_1, bi_b, bi_T, bi_F, ite_not, up_eq, up_ne, or_self, or_true, true_or, or_false, false_or, and_true, true_and, and_self, not_true_eq_false, not_false_eq_true, Bool.false_eq_true]
  | succ k ih =>
    intro i b hC hR v5 w5 hi J P hb
    obtain ⟨⟨N, G, L⟩, -⟩ := id J
    obtain ⟨hC1, a1, a2, a3, a4⟩ := copy25 (hC := hC) (d + 116)
    have L1 := (a4 _ N G L).sd (by omega) (Int32.ofNat i)
    obtain ⟨g, hC2, hR2, g1, L2, f1, f2, e1, e2⟩ := try_l (n := n) (by omega) (D := d + 118) (by omega) (Int32.ofNat i) n 0 0 G (am_up hC1 25 7 (Int32.ofNat i)) (am_up hR 374 6 (Int32.ofNat i)) (by omega) (by omega) L1
    obtain ⟨J3, P3⟩ := ahead_end2 J P (fun p q1 q2 q3 => by rw [f1.2 p (by omega) q2 q3, up_o (by omega), a3 p q1]) (fun p q1 q2 => by rw [f2.2 p q1 q2, up_o q1]) L2.2.2.2.2
    obtain ⟨R, okt, okc, okk, RL⟩ := id L2
    have hN := R.1
    have r3 := R.2.2.1
    have eT : am_cl (d + 119) qF_tryMonths [.ref 0, .int (Int32.ofNat n), .int (Int32.ofNat i)] hC = some (.inl none, hC2) := by
      have a1 := am_cl_le (d' := d + 118) (by omega) a1
      simp -implicitDefEqProofs (disch := (first | omega | assumption | exact am_isS_3 | exact am_isS_25 | exact am_isX_356 | exact am_isX_359)) only [uF_tryMonths, ggF_tryMonths_0, ggF_tryMonths_2, ggF_tryMonths_3, ccF_tryMonths_0_1, ccF_tryMonths_2_1, a1, am_kI_x, am_kV_x, am_kI_i, am_nI_i, am_kV_i, am_nV_i, ↓reduceIte, eq_self, if_true, if_false, c_in, c_tn, pn_add, pn_mul, pn_subc, pn_addm, c_le_t, c_le_f, c_lt_t, c_lt_f, c_eq_f, c_eqm, bi_z, bi_1, bi_b, bi_T, bi_F, ite_not, up_eq, up_ne, or_self, or_true, true_or, or_false, false_or, and_true, true_and, and_self, not_true_eq_false, not_false_eq_true, Bool.false_eq_true]
      exact e1
    have eg2 : am_cl (d + 119) qR_goesOn [.ref 373, .int (Int32.ofNat n), .int (Int32.ofNat 0)] (am_up hR 374 6 (Int32.ofNat i)) = some (.inl (some ((Int32.ofNat (0 + g)))), hR2) := by
      rw [uR_goesOn, ggR_goesOn_0]; exact e2
    have hm := hm25 R (k := 7) (by omega) (Int32.ofNat 1)
    have eb := (bset_N (fun c => decide (hR2.2 374 (43 + 9 * c + 7) = (Int32.ofNat 1))) (N := N) (by omega)).2
    have cl : cnt (fun c => decide (hR2.2 374 (43 + 9 * c + 7) = (Int32.ofNat 1))) N ≤ 8 := by have := cnt_le (p := fun c => decide (hR2.2 374 (43 + 9 * c + 7) = (Int32.ofNat 1))) N; omega
    have q3 : (given hR2).2 373 = hR.2 373 := by
      unfold given
      rw [cw_ne (by omega), f2.2 373 (by omega) (by omega), up_o (by omega)]
    generalize hm0 : cnt (fun c => decide (hR2.2 374 (43 + 9 * c + 7) = (Int32.ofNat 1))) N = m at hm eb cl
    rcases hb with rfl | ⟨b0, hb0, rfl⟩
    · have m0 : (((Int32.ofNat 0) : Int32) ≤ -1) = False := by decide
      obtain ⟨v, hC', hR', J4, x1, x2, x3, x4, x5⟩ := ih (i + 1) (Int32.ofNat m) hC2 (given hR2) (.int (Int32.ofNat m)) (.int (Int32.ofNat m)) (by omega) J3 P3 (Or.inr ⟨m, by omega, rfl⟩)
      refine ⟨v, hC', hR', J4, x1.trans (f1.1.trans a2), x2.trans f2.1, x3.trans q3, ?_, ?_⟩
      · rw [← x4, ggF_span_1]
        simp -implicitDefEqProofs (disch := (first | omega | assumption | exact am_isS_3 | exact am_isS_25 | exact am_isX_356 | exact am_isX_359)) only [ggF_span_0, ggF_span_2, ggF_span_3, ggF_span_4, ggF_span_5, ggF_span_6, ggF_span_7, ggF_span_8, ggF_span_9, ccF_span_0_1, ccF_span_2_2, ccF_span_2_1, eT, hm, am_kI_x, am_kV_x, am_kI_i, am_nI_i, am_kV_i, am_nV_i, ↓reduceIte, eq_self, if_true, if_false, c_in, c_tn, pn_add, pn_mul, pn_subc, pn_addm, c_le_t, c_le_f, c_lt_t, c_lt_f, c_eq_f, c_eqm, bi_z, bi_1, bi_b, bi_T, bi_F, ite_not, up_eq, up_ne, or_self, or_true, true_or, or_false, false_or, and_true, true_and, and_self, not_true_eq_false, not_false_eq_true, Bool.false_eq_true]
      · rw [← x5, ggR_span_3]
        simp -implicitDefEqProofs (disch := (first | omega | assumption | exact am_isS_3 | exact am_isS_25 | exact am_isX_356 | exact am_isX_359)) only [ggR_span_0, ggR_span_1, ggR_span_2, ggR_span_4, ggR_span_5, ggR_span_6, ggR_span_7, ggR_span_8, ggR_span_9, ggR_span_10, ccR_span_0_2, ccR_span_0_1, ccR_span_2_1, ccR_span_4_4, ccR_span_4_3, ccR_span_4_2, ccR_span_4_1, eg2, rR_openedOnes hN r3, rR_bc, eb, rR_bb, m0, am_kI_x, am_kV_x, am_kI_i, am_nI_i, am_kV_i, am_nV_i, ↓reduceIte, eq_self, if_true, if_false, c_in, c_tn, pn_add, pn_mul, pn_subc, pn_addm, c_le_t, c_le_f, c_lt_t, c_lt_f, c_eq_f, c_eqm, bi_z, bi_1, bi_b, bi_T, bi_F, ite_not, up_eq, up_ne, or_self, or_true, true_or, or_false, false_or, and_true, true_and, and_self, not_true_eq_false, not_false_eq_true, Bool.false_eq_true]
    · by_cases hy : y = (Int32.ofNat 0)
      · obtain ⟨v, hC', hR', J4, x1, x2, x3, x4, x5⟩ := ih (i + 1) (Int32.ofNat (min b0 m)) hC2 (given hR2) (.int (Int32.ofNat m)) (.int (Int32.ofNat m)) (by omega) J3 P3 (Or.inr ⟨min b0 m, by omega, rfl⟩)
        refine ⟨v, hC', hR', J4, x1.trans (f1.1.trans a2), x2.trans f2.1, x3.trans q3, ?_, ?_⟩
        · rw [← x4, ggF_span_1]
          by_cases hq : b0 ≤ m
          · rw [Nat.min_eq_left hq]
            simp -implicitDefEqProofs (disch := (first | omega | assumption | exact am_isS_3 | exact am_isS_25 | exact am_isX_356 | exact am_isX_359)) only [ggF_span_0, ggF_span_2, ggF_span_3, ggF_span_4, ggF_span_5, ggF_span_6, ggF_span_7, ggF_span_8, ggF_span_9, ccF_span_0_1, ccF_span_2_2, ccF_span_2_1, eT, hm, hy, am_kI_x, am_kV_x, am_kI_i, am_nI_i, am_kV_i, am_nV_i, ↓reduceIte, eq_self, if_true, if_false, c_in, c_tn, pn_add, pn_mul, pn_subc, pn_addm, c_le_t, c_le_f, c_lt_t, c_lt_f, c_eq_f, c_eqm, bi_z, bi_1, bi_b, bi_T, bi_F, ite_not, up_eq, up_ne, or_self, or_true, true_or, or_false, false_or, and_true, true_and, and_self, not_true_eq_false, not_false_eq_true, Bool.false_eq_true]
          · rw [Nat.min_eq_right (by omega)]
            simp -implicitDefEqProofs (disch := (first | omega | assumption | exact am_isS_3 | exact am_isS_25 | exact am_isX_356 | exact am_isX_359)) only [ggF_span_0, ggF_span_2, ggF_span_3, ggF_span_4, ggF_span_5, ggF_span_6, ggF_span_7, ggF_span_8, ggF_span_9, ccF_span_0_1, ccF_span_2_2, ccF_span_2_1, eT, hm, hy, am_kI_x, am_kV_x, am_kI_i, am_nI_i, am_kV_i, am_nV_i, ↓reduceIte, eq_self, if_true, if_false, c_in, c_tn, pn_add, pn_mul, pn_subc, pn_addm, c_le_t, c_le_f, c_lt_t, c_lt_f, c_eq_f, c_eqm, bi_z, bi_1, bi_b, bi_T, bi_F, ite_not, up_eq, up_ne, or_self, or_true, true_or, or_false, false_or, and_true, true_and, and_self, not_true_eq_false, not_false_eq_true, Bool.false_eq_true]
        · rw [← x5, ggR_span_3]
          simp -implicitDefEqProofs (disch := (first | omega | assumption | exact am_isS_3 | exact am_isS_25 | exact am_isX_356 | exact am_isX_359)) only [ggR_span_0, ggR_span_1, ggR_span_2, ggR_span_4, ggR_span_5, ggR_span_6, ggR_span_7, ggR_span_8, ggR_span_9, ggR_span_10, ccR_span_0_2, ccR_span_0_1, ccR_span_2_1, ccR_span_4_4, ccR_span_4_3, ccR_span_4_2, ccR_span_4_1, eg2, rR_openedOnes hN r3, rR_bc, eb, rR_bb, hy, pn_min, am_kI_x, am_kV_x, am_kI_i, am_nI_i, am_kV_i, am_nV_i, ↓reduceIte, eq_self, if_true, if_false, c_in, c_tn, pn_add, pn_mul, pn_subc, pn_addm, c_le_t, c_le_f, c_lt_t, c_lt_f, c_eq_f, c_eqm, bi_z, bi_1, bi_b, bi_T, bi_F, ite_not, up_eq, up_ne, or_self, or_true, true_or, or_false, false_or, and_true, true_and, and_self, not_true_eq_false, not_false_eq_true, Bool.false_eq_true]
      · obtain ⟨v, hC', hR', J4, x1, x2, x3, x4, x5⟩ := ih (i + 1) (Int32.ofNat (max b0 m)) hC2 (given hR2) (.int (Int32.ofNat m)) (.int (Int32.ofNat m)) (by omega) J3 P3 (Or.inr ⟨max b0 m, by omega, rfl⟩)
        refine ⟨v, hC', hR', J4, x1.trans (f1.1.trans a2), x2.trans f2.1, x3.trans q3, ?_, ?_⟩
        · rw [← x4, ggF_span_1]
          by_cases hq : m ≤ b0
          · rw [Nat.max_eq_left hq]
            simp -implicitDefEqProofs (disch := (first | omega | assumption | exact am_isS_3 | exact am_isS_25 | exact am_isX_356 | exact am_isX_359)) only [ggF_span_0, ggF_span_2, ggF_span_3, ggF_span_4, ggF_span_5, ggF_span_6, ggF_span_7, ggF_span_8, ggF_span_9, ccF_span_0_1, ccF_span_2_2, ccF_span_2_1, eT, hm, hy, am_kI_x, am_kV_x, am_kI_i, am_nI_i, am_kV_i, am_nV_i, ↓reduceIte, eq_self, if_true, if_false, c_in, c_tn, pn_add, pn_mul, pn_subc, pn_addm, c_le_t, c_le_f, c_lt_t, c_lt_f, c_eq_f, c_eqm, bi_z, bi_1, bi_b, bi_T, bi_F, ite_not, up_eq, up_ne, or_self, or_true, true_or, or_false, false_or, and_true, true_and, and_self, not_true_eq_false, not_false_eq_true, Bool.false_eq_true]
          · rw [Nat.max_eq_right (by omega)]
            simp -implicitDefEqProofs (disch := (first | omega | assumption | exact am_isS_3 | exact am_isS_25 | exact am_isX_356 | exact am_isX_359)) only [ggF_span_0, ggF_span_2, ggF_span_3, ggF_span_4, ggF_span_5, ggF_span_6, ggF_span_7, ggF_span_8, ggF_span_9, ccF_span_0_1, ccF_span_2_2, ccF_span_2_1, eT, hm, hy, am_kI_x, am_kV_x, am_kI_i, am_nI_i, am_kV_i, am_nV_i, ↓reduceIte, eq_self, if_true, if_false, c_in, c_tn, pn_add, pn_mul, pn_subc, pn_addm, c_le_t, c_le_f, c_lt_t, c_lt_f, c_eq_f, c_eqm, bi_z, bi_1, bi_b, bi_T, bi_F, ite_not, up_eq, up_ne, or_self, or_true, true_or, or_false, false_or, and_true, true_and, and_self, not_true_eq_false, not_false_eq_true, Bool.false_eq_true]
        · rw [← x5, ggR_span_3]
          simp -implicitDefEqProofs (disch := (first | omega | assumption | exact am_isS_3 | exact am_isS_25 | exact am_isX_356 | exact am_isX_359)) only [ggR_span_0, ggR_span_1, ggR_span_2, ggR_span_4, ggR_span_5, ggR_span_6, ggR_span_7, ggR_span_8, ggR_span_9, ggR_span_10, ccR_span_0_2, ccR_span_0_1, ccR_span_2_1, ccR_span_4_4, ccR_span_4_3, ccR_span_4_2, ccR_span_4_1, eg2, rR_openedOnes hN r3, rR_bc, eb, rR_bb, hy, pn_max, am_kI_x, am_kV_x, am_kI_i, am_nI_i, am_kV_i, am_nV_i, ↓reduceIte, eq_self, if_true, if_false, c_in, c_tn, pn_add, pn_mul, pn_subc, pn_addm, c_le_t, c_le_f, c_lt_t, c_lt_f, c_eq_f, c_eqm, bi_z, bi_1, bi_b, bi_T, bi_F, ite_not, up_eq, up_ne, or_self, or_true, true_or, or_false, false_or, and_true, true_and, and_self, not_true_eq_false, not_false_eq_true, Bool.false_eq_true]
theorem T_span (x y : Int32) : Two qF_span [.ref 0, .int x, .int y] qR_span [.ref 373, .int x, .int y] (am_ctt 31) := by
  intro d hC hR J
  have J0 := J.thr (Int32.ofNat 0)
  rcases rng_cases 100 (by omega) x with ⟨n, hn, rfl⟩ | ⟨b1, b2⟩
  · obtain ⟨v, hC', hR', J4, x1, x2, x3, x4, x5⟩ := span_l hn y d 6 1 (-1) hC (lent (am_up hR 373 0 (Int32.ofNat 0))) .null .null (by omega) (J2_lent J0) lent_P (Or.inl rfl)
    refine ⟨hC', hR', J4, x2, Or.inl ⟨v, x1, ?_, ?_, ?_⟩⟩
    · rw [x3]
      unfold lent
      rw [cw_ne (by omega)]; exact up_eq rfl rfl
    · simp -implicitDefEqProofs (disch := (first | omega | assumption | exact am_isS_3 | exact am_isS_25 | exact am_isX_356 | exact am_isX_359)) only [uF_span, ggF_span_0, ggF_span_2, ggF_span_3, ggF_span_4, ggF_span_5, ggF_span_6, ggF_span_7, ggF_span_8, ggF_span_9, ccF_span_0_1, ccF_span_2_2, ccF_span_2_1, xF_needAhead, am_kI_x, am_kV_x, am_kI_i, am_nI_i, am_kV_i, am_nV_i, ↓reduceIte, eq_self, if_true, if_false, c_in, c_tn, pn_add, pn_mul, pn_subc, pn_addm, c_le_t, c_le_f, c_lt_t, c_lt_f, c_eq_f, c_eqm, bi_z, bi_1, bi_b, bi_T, bi_F, ite_not, up_eq, up_ne, or_self, or_true, true_or, or_false, false_or, and_true, true_and, and_self, not_true_eq_false, not_false_eq_true, Bool.false_eq_true]
      exact x4
    · simp -implicitDefEqProofs (disch := (first | omega | assumption | exact am_isS_3 | exact am_isS_25 | exact am_isX_356 | exact am_isX_359)) only [uR_span, ggR_span_0, ggR_span_1, ggR_span_2, ggR_span_4, ggR_span_5, ggR_span_6, ggR_span_7, ggR_span_8, ggR_span_9, ggR_span_10, ccR_span_0_2, ccR_span_0_1, ccR_span_2_1, ccR_span_4_4, ccR_span_4_3, ccR_span_4_2, ccR_span_4_1, rR_noAhead, rR_throwsIf_f, rR_ka, am_kI_x, am_kV_x, am_kI_i, am_nI_i, am_kV_i, am_nV_i, ↓reduceIte, eq_self, if_true, if_false, c_in, c_tn, pn_add, pn_mul, pn_subc, pn_addm, c_le_t, c_le_f, c_lt_t, c_lt_f, c_eq_f, c_eqm, bi_z, bi_1, bi_b, bi_T, bi_F, ite_not, up_eq, up_ne, or_self, or_true, true_or, or_false, false_or, and_true, true_and, and_self, not_true_eq_false, not_false_eq_true, Bool.false_eq_true]
      exact x5
  · refine ⟨am_th hC, am_up (am_up hR 373 0 (Int32.ofNat 0)) 373 0 (Int32.ofNat 1), (J0.thr (Int32.ofNat 1)).th, rfl, Or.inr ⟨1, 1, (Int32.ofNat 0), rfl, by decide, up_eq rfl rfl, ?_, ?_⟩⟩
    · simp -implicitDefEqProofs (disch := (first | omega | assumption | exact am_isS_3 | exact am_isS_25 | exact am_isX_356 | exact am_isX_359)) only [uF_span, ggF_span_0, ggF_span_2, ggF_span_3, ggF_span_4, ggF_span_5, ggF_span_6, ggF_span_7, ggF_span_8, ggF_span_9, ccF_span_0_1, ccF_span_2_2, ccF_span_2_1, xF_needAhead_x b2, am_kI_x, am_kV_x, am_kI_i, am_nI_i, am_kV_i, am_nV_i, ↓reduceIte, eq_self, if_true, if_false, c_in, c_tn, pn_add, pn_mul, pn_subc, pn_addm, c_le_t, c_le_f, c_lt_t, c_lt_f, c_eq_f, c_eqm, bi_z, bi_1, bi_b, bi_T, bi_F, ite_not, up_eq, up_ne, or_self, or_true, true_or, or_false, false_or, and_true, true_and, and_self, not_true_eq_false, not_false_eq_true, Bool.false_eq_true]
    · simp -implicitDefEqProofs (disch := (first | omega | assumption | exact am_isS_3 | exact am_isS_25 | exact am_isX_356 | exact am_isX_359)) only [uR_span, ggR_span_0, ggR_span_1, ggR_span_2, ggR_span_4, ggR_span_5, ggR_span_6, ggR_span_7, ggR_span_8, ggR_span_9, ggR_span_10, ccR_span_0_2, ccR_span_0_1, ccR_span_2_1, ccR_span_4_4, ccR_span_4_3, ccR_span_4_2, ccR_span_4_1, rR_noAhead, rR_throwsIf_t, b1, k_373, am_kI_x, am_kV_x, am_kI_i, am_nI_i, am_kV_i, am_nV_i, ↓reduceIte, eq_self, if_true, if_false, c_in, c_tn, pn_add, pn_mul, pn_subc, pn_addm, c_le_t, c_le_f, c_lt_t, c_lt_f, c_eq_f, c_eqm, bi_z, bi_1, bi_b, bi_T, bi_F, ite_not, up_eq, up_ne, or_self, or_true, true_or, or_false, false_or, and_true, true_and, and_self, not_true_eq_false, not_false_eq_true, Bool.false_eq_true]
