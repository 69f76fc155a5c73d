/-! missing, can, swap, rests -/
theorem em_or {p : Prop} : (¬ p ∨ p) = True := eq_true (Classical.em p).symm
theorem all_n_all : (List.range 9).all (fun n => decide ((Int32.ofNat 1 <<< (Int32.ofNat n &&& Int32.ofNat 31)) - Int32.ofNat 1 = Int32.ofNat (2 ^ n - 1))) = true := by decide +kernel
theorem all_n {n : Nat} (hn : n ≤ 8) : ((Int32.ofNat 1) <<< ((Int32.ofNat n) &&& (Int32.ofNat 31))) - (Int32.ofNat 1) = (Int32.ofNat (2 ^ n - 1)) := of_decide_eq_true (List.all_eq_true.mp all_n_all n (List.mem_range.mpr (by omega)))
theorem has_m {m c : Nat} (hc : c < 32) : (((Int32.ofNat m) >>> ((Int32.ofNat c) &&& (Int32.ofNat 31))) &&& (Int32.ofNat 1) = (Int32.ofNat 1)) = (m.testBit c = true) := by
  apply propext
  rw [tb_has hc, tb_ofNat hc]
/-- what those of a set keep, as bits -/
def kbF (W : Nat → Int32) (m c : Nat) : Int32 := if m.testBit c = true then (if W (43 + 9 * c + 5) = -1 then (Int32.ofNat 0) else (Int32.ofNat 1) <<< (W (43 + 9 * c + 5) &&& (Int32.ofNat 31))) else (Int32.ofNat 0)
def kbW (W : Nat → Int32) (m N : Nat) : Int32 := itr (fun c b => b ||| kbF W m c) N 0 (Int32.ofNat 0)
theorem rR_keptBy {h : am_H} {N : Nat} (hN : N ≤ 8) (e : h.2 374 0 = (Int32.ofNat N)) (m : Nat) (d : Nat) : am_cl (d + 4) qR_keptBy [.ref 373, .int (Int32.ofNat m)] h = some (.inl (some (kbW (h.2 374) m N)), h) := by
  rw [uR_keptBy, ggR_keptBy_0]
  refine lp (N := N) (L := fun c b => [.ref 373, .int (Int32.ofNat m), .int b, .int (Int32.ofNat c)]) (H := fun _ => h) (R := fun b => some (.inl (some (b)), h)) _ (fun c b hc => ?_) (fun b => ?_) N 0 (Int32.ofNat 0) (by omega)
  · rw [ggR_keptBy_1]
    have hb := has_m (m := m) (c := c) (by omega)
    unfold kbF
    by_cases h1 : m.testBit c = true
    · rw [if_pos h1]
      by_cases h2 : h.2 374 (43 + 9 * c + 5) = -1
      · rw [if_pos h2]
        simp -implicitDefEqProofs (disch := (first | omega | assumption | exact am_isS_3 | exact am_isS_25 | exact am_isX_356 | exact am_isX_359)) only [ggR_keptBy_0, ggR_keptBy_2, ggR_keptBy_3, ggR_keptBy_4, ggR_keptBy_5, ggR_keptBy_6, ggR_keptBy_7, ccR_keptBy_1_1, ccR_keptBy_2_1, ccR_keptBy_3_1, ccR_keptBy_4_1, rR_children, rR_keeps, rR_has, e, hb, h1, h2, or_zero32, am_kI_x, am_kV_x, am_kI_i, am_nI_i, am_kV_i, am_nV_i, ↓reduceIte, eq_self, if_true, if_false, c_in, c_tn, pn_add, pn_mul, pn_subc, pn_addm, c_le_t, c_le_f, c_lt_t, c_lt_f, c_eq_f, c_eqm, bi_z, bi_1, bi_b, bi_T, bi_F, ite_not, up_eq, up_ne, or_self, or_true, true_or, or_false, false_or, and_true, true_and, and_self, not_true_eq_false, not_false_eq_true, Bool.false_eq_true]
      · rw [if_neg h2]
        simp -implicitDefEqProofs (disch := (first | omega | assumption | exact am_isS_3 | exact am_isS_25 | exact am_isX_356 | exact am_isX_359)) only [ggR_keptBy_0, ggR_keptBy_2, ggR_keptBy_3, ggR_keptBy_4, ggR_keptBy_5, ggR_keptBy_6, ggR_keptBy_7, ccR_keptBy_1_1, ccR_keptBy_2_1, ccR_keptBy_3_1, ccR_keptBy_4_1, rR_children, rR_keeps, rR_has, rR_of, e, hb, h1, h2, am_kI_x, am_kV_x, am_kI_i, am_nI_i, am_kV_i, am_nV_i, ↓reduceIte, eq_self, if_true, if_false, c_in, c_tn, pn_add, pn_mul, pn_subc, pn_addm, c_le_t, c_le_f, c_lt_t, c_lt_f, c_eq_f, c_eqm, bi_z, bi_1, bi_b, bi_T, bi_F, ite_not, up_eq, up_ne, or_self, or_true, true_or, or_false, false_or, and_true, true_and, and_self, not_true_eq_false, not_false_eq_true, Bool.false_eq_true]
    · rw [if_neg h1]
      simp -implicitDefEqProofs (disch := (first | omega | assumption | exact am_isS_3 | exact am_isS_25 | exact am_isX_356 | exact am_isX_359)) only [ggR_keptBy_0, ggR_keptBy_2, ggR_keptBy_3, ggR_keptBy_4, ggR_keptBy_5, ggR_keptBy_6, ggR_keptBy_7, ccR_keptBy_1_1, ccR_keptBy_2_1, ccR_keptBy_3_1, ccR_keptBy_4_1, rR_children, rR_has, e, hb, h1, or_zero32, am_kI_x, am_kV_x, am_kI_i, am_nI_i, am_kV_i, am_nV_i, ↓reduceIte, eq_self, if_true, if_false, c_in, c_tn, pn_add, pn_mul, pn_subc, pn_addm, c_le_t, c_le_f, c_lt_t, c_lt_f, c_eq_f, c_eqm, bi_z, bi_1, bi_b, bi_T, bi_F, ite_not, up_eq, up_ne, or_self, or_true, true_or, or_false, false_or, and_true, true_and, and_self, not_true_eq_false, not_false_eq_true, Bool.false_eq_true]
  · rw [ggR_keptBy_1]
    simp -implicitDefEqProofs (disch := (first | omega | assumption | exact am_isS_3 | exact am_isS_25 | exact am_isX_356 | exact am_isX_359)) only [ggR_keptBy_0, ggR_keptBy_2, ggR_keptBy_3, ggR_keptBy_4, ggR_keptBy_5, ggR_keptBy_6, ggR_keptBy_7, ccR_keptBy_1_1, ccR_keptBy_2_1, ccR_keptBy_3_1, ccR_keptBy_4_1, rR_children, e, am_kI_x, am_kV_x, am_kI_i, am_nI_i, am_kV_i, am_nV_i, ↓reduceIte, eq_self, if_true, if_false, c_in, c_tn, pn_add, pn_mul, pn_subc, pn_addm, c_le_t, c_le_f, c_lt_t, c_lt_f, c_eq_f, c_eqm, bi_z, bi_1, bi_b, bi_T, bi_F, ite_not, up_eq, up_ne, or_self, or_true, true_or, or_false, false_or, and_true, true_and, and_self, not_true_eq_false, not_false_eq_true, Bool.false_eq_true]
theorem tb_kb {W : Nat → Int32} {N : Nat} (hW : ∀ c, c < N → rm (W (43 + 9 * c + 5)) 8) {m t : Nat} (ht : t < 8) : tb (kbW W m N) t = true ↔ ∃ c, c < N ∧ m.testBit c = true ∧ W (43 + 9 * c + 5) = (Int32.ofNat t) := by
  unfold kbW
  rw [tb_ors (kbF W m) (by omega), anyN_iff]
  constructor
  · rintro ⟨c, hc, h⟩
    unfold kbF at h
    by_cases h1 : m.testBit c = true
    · rw [if_pos h1] at h
      rcases hW c hc with q | ⟨k, hk, ek⟩
      · rw [if_pos q, tb_0 (by omega)] at h
        exact absurd h (by decide)
      · have hne : ¬ W (43 + 9 * c + 5) = -1 := by rw [ek, c_eqm (by omega)]; exact fun z => z
        rw [if_neg hne, ek, tb_sh (by omega) (by omega)] at h
        exact ⟨c, hc, h1, by rw [ek, of_decide_eq_true h]⟩
    · rw [if_neg h1, tb_0 (by omega)] at h
      exact absurd h (by decide)
  · rintro ⟨c, hc, h1, h2⟩
    refine ⟨c, hc, ?_⟩
    have hne : ¬ W (43 + 9 * c + 5) = -1 := by rw [h2, c_eqm (by omega)]; exact fun z => z
    unfold kbF
    rw [if_pos h1, if_neg hne, h2, tb_sh (by omega) (by omega)]
    exact decide_eq_true rfl
theorem tb_all {N c : Nat} (hN : N ≤ 8) (hc : c < N) : (2 ^ N - 1).testBit c = true := by
  rw [Nat.testBit_two_pow_sub_one]
  exact decide_eq_true hc
theorem has_tb (x : Int32) {c : Nat} (hc : c < 32) : ((x >>> ((Int32.ofNat c) &&& (Int32.ofNat 31))) &&& (Int32.ofNat 1) = (Int32.ofNat 1)) = (tb x c = true) := propext (tb_has hc)
theorem T_missing : Ans qF_missing [.ref 0] qR_missing [.ref 373] := by
  intro d hC hR J
  have J0 := J.thr (Int32.ofNat 0)
  obtain ⟨⟨N, G, R, okt, okc, okk, RL⟩, -⟩ := J
  have hN := R.1
  have r3 := R.2.2.1
  have r4 := R.2.2.2.1
  have r11 := R.2.2.2.2.2.2.2.2.2.2.1
  have e : (am_up hR 373 0 (Int32.ofNat 0)).2 374 0 = (Int32.ofNat N) := by rw [up_o (by omega)]; exact r3
  have kR := fun d => rR_keptBy hN e (2 ^ N - 1) d
  rw [up_o (by omega)] at kR
  have iff := fun (t : Nat) (ht : t < 8) => tb_kb (N := N) (W := hR.2 374) (fun c hc => (okc c hc).2.2.2.2.2.1) (m := 2 ^ N - 1) ht
  obtain ⟨v, e1, e2⟩ := lpp (Φ := am_cl (d + 119)) (Ψ := am_cl (d + 119)) (q := qF_missing) (b := 1) (q' := qR_missing) (b' := 1) (N := 8) (h := hC) (h' := am_up hR 373 0 (Int32.ofNat 0)) (L := fun c (s : Int32) => [.ref 0, .int s, .int (Int32.ofNat c)]) (M := fun c (t : Int32) => [.ref 373, .int (kbW (hR.2 374) (2 ^ N - 1) N), .int t, .int (Int32.ofNat c)]) (P := fun c s t => s = t)
    (fun c s t hc p => by
      subst p
      have w0 := r11 0 c (by omega) (by omega) (by omega)
      have eb := fun d => sS_bitsOf am_isS_3 hN r4 d (k := 5) (by omega) (Int32.ofNat c)
      have ez := bs_rel R (k := 5) (by omega) (Int32.ofNat c)
      obtain ⟨zn, -⟩ := bset_N (fun c' => decide (hR.2 374 (43 + 9 * c' + 5) = (Int32.ofNat c))) (N := N) (by omega)
      have zl := bsN_lt (fun c' => decide (hR.2 374 (43 + 9 * c' + 5) = (Int32.ofNat c))) N
      have z8 : 2 ^ N ≤ 2 ^ 8 := Nat.pow_le_pow_right (by omega) hN
      have zz := bsN_zero (p := fun c' => decide (hR.2 374 (43 + 9 * c' + 5) = (Int32.ofNat c))) (N := N)
      rw [ez, zn] at eb
      generalize bsN (fun c' => decide (hR.2 374 (43 + 9 * c' + 5) = (Int32.ofNat c))) N = z at eb zl zz
      have hb := has_tb (kbW (hR.2 374) (2 ^ N - 1) N) (c := c) (by omega)
      by_cases h1 : hR.2 374 (7 + 4 * c + 0) ≤ (Int32.ofNat 0)
      · refine ⟨s, s, rfl, ?_, ?_⟩
        · rw [ggF_missing_1]
          simp -implicitDefEqProofs (disch := (first | omega | assumption | exact am_isS_3 | exact am_isS_25 | exact am_isX_356 | exact am_isX_359)) only [ggF_missing_0, ggF_missing_2, ggF_missing_3, ggF_missing_4, ggF_missing_5, ggF_missing_6, ccF_missing_3_1, w0, h1, am_kI_x, am_kV_x, am_kI_i, am_nI_i, am_kV_i, am_nV_i, ↓reduceIte, eq_self, if_true, if_false, c_in, c_tn, pn_add, pn_mul, pn_subc, pn_addm, c_le_t, c_le_f, c_lt_t, c_lt_f, c_eq_f, c_eqm, bi_z, bi_1, bi_b, bi_T, bi_F, ite_not, up_eq, up_ne, or_self, or_true, true_or, or_false, false_or, and_true, true_and, and_self, not_true_eq_false, not_false_eq_true, Bool.false_eq_true]
        · rw [ggR_missing_1]
          simp -implicitDefEqProofs (disch := (first | omega | assumption | exact am_isS_3 | exact am_isS_25 | exact am_isX_356 | exact am_isX_359)) only [ggR_missing_0, ggR_missing_2, ggR_missing_3, ggR_missing_4, ggR_missing_5, ggR_missing_6, ggR_missing_7, ccR_missing_0_2, ccR_missing_0_1, ccR_missing_2_1, ccR_missing_3_1, rR_ofThing, up_o, h1, or_zero32, am_kI_x, am_kV_x, am_kI_i, am_nI_i, am_kV_i, am_nV_i, ↓reduceIte, eq_self, if_true, if_false, c_in, c_tn, pn_add, pn_mul, pn_subc, pn_addm, c_le_t, c_le_f, c_lt_t, c_lt_f, c_eq_f, c_eqm, bi_z, bi_1, bi_b, bi_T, bi_F, ite_not, up_eq, up_ne, or_self, or_true, true_or, or_false, false_or, and_true, true_and, and_self, not_true_eq_false, not_false_eq_true, Bool.false_eq_true]
      · by_cases h2 : tb (kbW (hR.2 374) (2 ^ N - 1) N) c = true
        · have hz : z ≠ 0 := fun q => by
            obtain ⟨c', hc', -, ec⟩ := (iff c hc).mp h2
            have := zz.mp q c' hc'
            rw [decide_eq_false_iff_not] at this
            exact this ec
          refine ⟨s, s, rfl, ?_, ?_⟩
          · rw [ggF_missing_1]
            simp -implicitDefEqProofs (disch := (first | omega | assumption | exact am_isS_3 | exact am_isS_25 | exact am_isX_356 | exact am_isX_359)) only [ggF_missing_0, ggF_missing_2, ggF_missing_3, ggF_missing_4, ggF_missing_5, ggF_missing_6, ccF_missing_3_1, w0, h1, eb, am_kI_x, am_kV_x, am_kI_i, am_nI_i, am_kV_i, am_nV_i, ↓reduceIte, eq_self, if_true, if_false, c_in, c_tn, pn_add, pn_mul, pn_subc, pn_addm, c_le_t, c_le_f, c_lt_t, c_lt_f, c_eq_f, c_eqm, bi_z, bi_1, bi_b, bi_T, bi_F, ite_not, up_eq, up_ne, or_self, or_true, true_or, or_false, false_or, and_true, true_and, and_self, not_true_eq_false, not_false_eq_true, Bool.false_eq_true]
          · rw [ggR_missing_1]
            simp -implicitDefEqProofs (disch := (first | omega | assumption | exact am_isS_3 | exact am_isS_25 | exact am_isX_356 | exact am_isX_359)) only [ggR_missing_0, ggR_missing_2, ggR_missing_3, ggR_missing_4, ggR_missing_5, ggR_missing_6, ggR_missing_7, ccR_missing_0_2, ccR_missing_0_1, ccR_missing_2_1, ccR_missing_3_1, rR_ofThing, up_o, h1, rR_has, hb, h2, or_zero32, am_kI_x, am_kV_x, am_kI_i, am_nI_i, am_kV_i, am_nV_i, ↓reduceIte, eq_self, if_true, if_false, c_in, c_tn, pn_add, pn_mul, pn_subc, pn_addm, c_le_t, c_le_f, c_lt_t, c_lt_f, c_eq_f, c_eqm, bi_z, bi_1, bi_b, bi_T, bi_F, ite_not, up_eq, up_ne, or_self, or_true, true_or, or_false, false_or, and_true, true_and, and_self, not_true_eq_false, not_false_eq_true, Bool.false_eq_true]
        · have hz : z = 0 := zz.mpr (fun c' hc' => decide_eq_false (fun ec => h2 ((iff c hc).mpr ⟨c', hc', tb_all hN hc', ec⟩)))
          subst hz
          refine ⟨s ||| ((Int32.ofNat 1) <<< ((Int32.ofNat c) &&& (Int32.ofNat 31))), s ||| ((Int32.ofNat 1) <<< ((Int32.ofNat c) &&& (Int32.ofNat 31))), rfl, ?_, ?_⟩
          · rw [ggF_missing_1]
            simp -implicitDefEqProofs (disch := (first | omega | assumption | exact am_isS_3 | exact am_isS_25 | exact am_isX_356 | exact am_isX_359)) only [ggF_missing_0, ggF_missing_2, ggF_missing_3, ggF_missing_4, ggF_missing_5, ggF_missing_6, ccF_missing_3_1, w0, h1, eb, am_kI_x, am_kV_x, am_kI_i, am_nI_i, am_kV_i, am_nV_i, ↓reduceIte, eq_self, if_true, if_false, c_in, c_tn, pn_add, pn_mul, pn_subc, pn_addm, c_le_t, c_le_f, c_lt_t, c_lt_f, c_eq_f, c_eqm, bi_z, bi_1, bi_b, bi_T, bi_F, ite_not, up_eq, up_ne, or_self, or_true, true_or, or_false, false_or, and_true, true_and, and_self, not_true_eq_false, not_false_eq_true, Bool.false_eq_true]
          · rw [ggR_missing_1]
            simp -implicitDefEqProofs (disch := (first | omega | assumption | exact am_isS_3 | exact am_isS_25 | exact am_isX_356 | exact am_isX_359)) only [ggR_missing_0, ggR_missing_2, ggR_missing_3, ggR_missing_4, ggR_missing_5, ggR_missing_6, ggR_missing_7, ccR_missing_0_2, ccR_missing_0_1, ccR_missing_2_1, ccR_missing_3_1, rR_ofThing, up_o, h1, rR_has, hb, h2, am_kI_x, am_kV_x, am_kI_i, am_nI_i, am_kV_i, am_nV_i, ↓reduceIte, eq_self, if_true, if_false, c_in, c_tn, pn_add, pn_mul, pn_subc, pn_addm, c_le_t, c_le_f, c_lt_t, c_lt_f, c_eq_f, c_eqm, bi_z, bi_1, bi_b, bi_T, bi_F, ite_not, up_eq, up_ne, or_self, or_true, true_or, or_false, false_or, and_true, true_and, and_self, not_true_eq_false, not_false_eq_true, Bool.false_eq_true])
    (fun s t p => by
      subst p
      refine ⟨s, ?_, ?_⟩
      · rw [ggF_missing_1]
        simp -implicitDefEqProofs (disch := (first | omega | assumption | exact am_isS_3 | exact am_isS_25 | exact am_isX_356 | exact am_isX_359)) only [ggF_missing_0, ggF_missing_2, ggF_missing_3, ggF_missing_4, ggF_missing_5, ggF_missing_6, ccF_missing_3_1, am_kI_x, am_kV_x, am_kI_i, am_nI_i, am_kV_i, am_nV_i, ↓reduceIte, eq_self, if_true, if_false, c_in, c_tn, pn_add, pn_mul, pn_subc, pn_addm, c_le_t, c_le_f, c_lt_t, c_lt_f, c_eq_f, c_eqm, bi_z, bi_1, bi_b, bi_T, bi_F, ite_not, up_eq, up_ne, or_self, or_true, true_or, or_false, false_or, and_true, true_and, and_self, not_true_eq_false, not_false_eq_true, Bool.false_eq_true]
      · rw [ggR_missing_1]
        simp -implicitDefEqProofs (disch := (first | omega | assumption | exact am_isS_3 | exact am_isS_25 | exact am_isX_356 | exact am_isX_359)) only [ggR_missing_0, ggR_missing_2, ggR_missing_3, ggR_missing_4, ggR_missing_5, ggR_missing_6, ggR_missing_7, ccR_missing_0_2, ccR_missing_0_1, ccR_missing_2_1, ccR_missing_3_1, am_kI_x, am_kV_x, am_kI_i, am_nI_i, am_kV_i, am_nV_i, ↓reduceIte, eq_self, if_true, if_false, c_in, c_tn, pn_add, pn_mul, pn_subc, pn_addm, c_le_t, c_le_f, c_lt_t, c_lt_f, c_eq_f, c_eqm, bi_z, bi_1, bi_b, bi_T, bi_F, ite_not, up_eq, up_ne, or_self, or_true, true_or, or_false, false_or, and_true, true_and, and_self, not_true_eq_false, not_false_eq_true, Bool.false_eq_true]) 8 0 (Int32.ofNat 0) (Int32.ofNat 0) (by omega) rfl
  have an := all_n hN
  refine ⟨v, hC, am_up hR 373 0 (Int32.ofNat 0), J0, rfl, rfl, up_eq rfl rfl, ?_, ?_⟩
  · rw [uF_missing, ggF_missing_0]; exact e1
  · simp -implicitDefEqProofs (disch := (first | omega | assumption | exact am_isS_3 | exact am_isS_25 | exact am_isX_356 | exact am_isX_359)) only [uR_missing, ggR_missing_0, ggR_missing_2, ggR_missing_3, ggR_missing_4, ggR_missing_5, ggR_missing_6, ggR_missing_7, ccR_missing_0_2, ccR_missing_0_1, ccR_missing_2_1, ccR_missing_3_1, rR_allChildren, up_o, r3, an, kR, am_kI_x, am_kV_x, am_kI_i, am_nI_i, am_kV_i, am_nV_i, ↓reduceIte, eq_self, if_true, if_false, c_in, c_tn, pn_add, pn_mul, pn_subc, pn_addm, c_le_t, c_le_f, c_lt_t, c_lt_f, c_eq_f, c_eqm, bi_z, bi_1, bi_b, bi_T, bi_F, ite_not, up_eq, up_ne, or_self, or_true, true_or, or_false, false_or, and_true, true_and, and_self, not_true_eq_false, not_false_eq_true, Bool.false_eq_true]
    exact e2
/-! knots of two as numbers -/
theorem pr_all : (List.range 32).all (fun s => (List.range 32).all (fun t => decide (Int32.ofNat s ||| (Int32.ofNat t <<< (Int32.ofNat 5 &&& Int32.ofNat 31)) = Int32.ofNat (s + 32 * t)))) = true := by decide +kernel
theorem pr_at {s t : Nat} (hs : s < 32) (ht : t < 32) : (Int32.ofNat s) ||| ((Int32.ofNat t) <<< ((Int32.ofNat 5) &&& (Int32.ofNat 31))) = (Int32.ofNat (s + 32 * t)) := of_decide_eq_true (List.all_eq_true.mp (List.all_eq_true.mp pr_all s (List.mem_range.mpr hs)) t (List.mem_range.mpr ht))
theorem pq_all : (List.range 1024).all (fun p => decide (Int32.ofNat p &&& Int32.ofNat 31 = Int32.ofNat (p % 32)) && decide (Int32.ofNat p >>> (Int32.ofNat 5 &&& Int32.ofNat 31) = Int32.ofNat (p / 32))) = true := by decide +kernel
theorem pq_at {p : Nat} (hp : p < 1024) : (Int32.ofNat p) &&& (Int32.ofNat 31) = (Int32.ofNat (p % 32)) ∧ (Int32.ofNat p) >>> ((Int32.ofNat 5) &&& (Int32.ofNat 31)) = (Int32.ofNat (p / 32)) := by
  have := List.all_eq_true.mp pq_all p (List.mem_range.mpr hp)
  rw [Bool.and_eq_true] at this
  exact ⟨of_decide_eq_true this.1, of_decide_eq_true this.2⟩
theorem xK_isMove {p m : Nat} (hp : p < 1024) (hm : m < 10) (d : Nat) (h : am_H) : am_cl (d + 2) qK_isMove [.int (Int32.ofNat p), .int (Int32.ofNat m)] h = some (.inl (some (bi (kmv p m = true))), h) := by
  obtain ⟨a, b⟩ := pq_at hp
  unfold kmv
  by_cases h5 : m < 5
  · rw [if_pos h5]
    have e := fun d => xK_isMovable (s := p % 32) (o := p / 32) (f := m) (by omega) (by omega) h5 d h
    simp -implicitDefEqProofs (disch := (first | omega | assumption | exact am_isS_3 | exact am_isS_25 | exact am_isX_356 | exact am_isX_359)) only [uK_isMove, ggK_isMove_0, ggK_isMove_1, ggK_isMove_2, ggK_isMove_3, ccK_isMove_1_1, ccK_isMove_2_1, a, b, e, em_or, am_kI_x, am_kV_x, am_kI_i, am_nI_i, am_kV_i, am_nV_i, ↓reduceIte, eq_self, if_true, if_false, c_in, c_tn, pn_add, pn_mul, pn_subc, pn_addm, c_le_t, c_le_f, c_lt_t, c_lt_f, c_eq_f, c_eqm, bi_z, bi_1, bi_b, bi_T, bi_F, ite_not, up_eq, up_ne, or_self, or_true, true_or, or_false, false_or, and_true, true_and, and_self, not_true_eq_false, not_false_eq_true, Bool.false_eq_true]
  · rw [if_neg h5]
    have e := fun d => xK_isMovable (s := p / 32) (o := p % 32) (f := m - 5) (by omega) (by omega) (by omega) d h
    simp -implicitDefEqProofs (disch := (first | omega | assumption | exact am_isS_3 | exact am_isS_25 | exact am_isX_356 | exact am_isX_359)) only [uK_isMove, ggK_isMove_0, ggK_isMove_1, ggK_isMove_2, ggK_isMove_3, ccK_isMove_1_1, ccK_isMove_2_1, a, b, e, em_or, am_kI_x, am_kV_x, am_kI_i, am_nI_i, am_kV_i, am_nV_i, ↓reduceIte, eq_self, if_true, if_false, c_in, c_tn, pn_add, pn_mul, pn_subc, pn_addm, c_le_t, c_le_f, c_lt_t, c_lt_f, c_eq_f, c_eqm, bi_z, bi_1, bi_b, bi_T, bi_F, ite_not, up_eq, up_ne, or_self, or_true, true_or, or_false, false_or, and_true, true_and, and_self, not_true_eq_false, not_false_eq_true, Bool.false_eq_true]
theorem rR_mayMoveIn {p m : Nat} (hp : p < 1024) (hm : m < 10) (d : Nat) (h : am_H) : am_cl (d + 3) qR_mayMoveIn [.int (Int32.ofNat p), .int (Int32.ofNat m)] h = some (.inl (some (bi (kmv p m = true))), h) := by
  obtain ⟨a, b⟩ := pq_at hp
  unfold kmv
  by_cases h5 : m < 5
  · rw [if_pos h5]
    have e := fun d => rR_mayMove (s := p % 32) (o := p / 32) (f := m) (by omega) (by omega) h5 d h
    simp -implicitDefEqProofs (disch := (first | omega | assumption | exact am_isS_3 | exact am_isS_25 | exact am_isX_356 | exact am_isX_359)) only [uR_mayMoveIn, ggR_mayMoveIn_0, ggR_mayMoveIn_1, ggR_mayMoveIn_2, ggR_mayMoveIn_3, ccR_mayMoveIn_1_1, ccR_mayMoveIn_2_1, a, b, e, em_or, am_kI_x, am_kV_x, am_kI_i, am_nI_i, am_kV_i, am_nV_i, ↓reduceIte, eq_self, if_true, if_false, c_in, c_tn, pn_add, pn_mul, pn_subc, pn_addm, c_le_t, c_le_f, c_lt_t, c_lt_f, c_eq_f, c_eqm, bi_z, bi_1, bi_b, bi_T, bi_F, ite_not, up_eq, up_ne, or_self, or_true, true_or, or_false, false_or, and_true, true_and, and_self, not_true_eq_false, not_false_eq_true, Bool.false_eq_true]
  · rw [if_neg h5]
    have e := fun d => rR_mayMove (s := p / 32) (o := p % 32) (f := m - 5) (by omega) (by omega) (by omega) d h
    simp -implicitDefEqProofs (disch := (first | omega | assumption | exact am_isS_3 | exact am_isS_25 | exact am_isX_356 | exact am_isX_359)) only [uR_mayMoveIn, ggR_mayMoveIn_0, ggR_mayMoveIn_1, ggR_mayMoveIn_2, ggR_mayMoveIn_3, ccR_mayMoveIn_1_1, ccR_mayMoveIn_2_1, a, b, e, em_or, am_kI_x, am_kV_x, am_kI_i, am_nI_i, am_kV_i, am_nV_i, ↓reduceIte, eq_self, if_true, if_false, c_in, c_tn, pn_add, pn_mul, pn_subc, pn_addm, c_le_t, c_le_f, c_lt_t, c_lt_f, c_eq_f, c_eqm, bi_z, bi_1, bi_b, bi_T, bi_F, ite_not, up_eq, up_ne, or_self, or_true, true_or, or_false, false_or, and_true, true_and, and_self, not_true_eq_false, not_false_eq_true, Bool.false_eq_true]
theorem xK_movesNow {p : Nat} (hp : p < 1024) (d : Nat) (h : am_H) : am_cl (d + 3) qK_movesNow [.int (Int32.ofNat p)] h = some (.inl (some (bset (kmv p) 10)), h) := by
  rw [uK_movesNow, ggK_movesNow_0]
  refine lp (N := 10) (L := fun c b => [.int (Int32.ofNat p), .int b, .int (Int32.ofNat c)]) (H := fun _ => h) (R := fun b => some (.inl (some (b)), h)) _ (fun c b hc => ?_) (fun b => ?_) 10 0 (Int32.ofNat 0) (by omega)
  · rw [ggK_movesNow_1]
    have e := fun d => xK_isMove hp hc d h
    by_cases hq : kmv p c = true
    · rw [bi_t hq] at e
      simp -implicitDefEqProofs (disch := (first | omega | assumption | exact am_isS_3 | exact am_isS_25 | exact am_isX_356 | exact am_isX_359)) only [ggK_movesNow_0, ggK_movesNow_2, ggK_movesNow_3, ggK_movesNow_4, ggK_movesNow_5, ccK_movesNow_2_1, e, hq, am_kI_x, am_kV_x, am_kI_i, am_nI_i, am_kV_i, am_nV_i, ↓reduceIte, eq_self, if_true, if_false, c_in, c_tn, pn_add, pn_mul, pn_subc, pn_addm, c_le_t, c_le_f, c_lt_t, c_lt_f, c_eq_f, c_eqm, bi_z, bi_1, bi_b, bi_T, bi_F, ite_not, up_eq, up_ne, or_self, or_true, true_or, or_false, false_or, and_true, true_and, and_self, not_true_eq_false, not_false_eq_true, Bool.false_eq_true]
    · rw [bi_f hq] at e
      simp -implicitDefEqProofs (disch := (first | omega | assumption | exact am_isS_3 | exact am_isS_25 | exact am_isX_356 | exact am_isX_359)) only [ggK_movesNow_0, ggK_movesNow_2, ggK_movesNow_3, ggK_movesNow_4, ggK_movesNow_5, ccK_movesNow_2_1, e, hq, am_kI_x, am_kV_x, am_kI_i, am_nI_i, am_kV_i, am_nV_i, ↓reduceIte, eq_self, if_true, if_false, c_in, c_tn, pn_add, pn_mul, pn_subc, pn_addm, c_le_t, c_le_f, c_lt_t, c_lt_f, c_eq_f, c_eqm, bi_z, bi_1, bi_b, bi_T, bi_F, ite_not, up_eq, up_ne, or_self, or_true, true_or, or_false, false_or, and_true, true_and, and_self, not_true_eq_false, not_false_eq_true, Bool.false_eq_true]
  · rw [ggK_movesNow_1]
    simp -implicitDefEqProofs (disch := (first | omega | assumption | exact am_isS_3 | exact am_isS_25 | exact am_isX_356 | exact am_isX_359)) only [ggK_movesNow_0, ggK_movesNow_2, ggK_movesNow_3, ggK_movesNow_4, ggK_movesNow_5, ccK_movesNow_2_1, am_kI_x, am_kV_x, am_kI_i, am_nI_i, am_kV_i, am_nV_i, ↓reduceIte, eq_self, if_true, if_false, c_in, c_tn, pn_add, pn_mul, pn_subc, pn_addm, c_le_t, c_le_f, c_lt_t, c_lt_f, c_eq_f, c_eqm, bi_z, bi_1, bi_b, bi_T, bi_F, ite_not, up_eq, up_ne, or_self, or_true, true_or, or_false, false_or, and_true, true_and, and_self, not_true_eq_false, not_false_eq_true, Bool.false_eq_true]
/-- the pair of a child's knot, on both sides -/
theorem pair_both {hC hR : am_H} {N G c k : Nat} (L : Lk hC hR 3 N G) (hc : c < N) (hk : k < N) (ek : hR.2 374 (43 + 9 * c + 8) = (Int32.ofNat k)) : ∃ s t, s < 32 ∧ t < 32 ∧ s ≠ 0 ∧ t ≠ 0 ∧ (∀ d, am_cl (d + 1) qS_pairOf [.ref 3, .int (Int32.ofNat c)] hC = some (.inl (some ((Int32.ofNat (s + 32 * t)))), hC)) ∧ ∀ d, am_cl (d + 4) qR_stateOf [.ref 373, .int (Int32.ofNat c)] hR = some (.inl (some ((Int32.ofNat (s + 32 * t)))), hR) := by
  obtain ⟨R, okt, okc, okk, RL⟩ := L
  have hN := R.1
  have r12 := R.2.2.2.2.2.2.2.2.2.2.2.1
  obtain ⟨hne, ec, eo⟩ := okk.2.1 c k hc hk ek
  have eo2 := (okk.2.1 k c hk hc ec).2.2
  obtain ⟨s, hs, es⟩ := (okc c hc).2.2.1
  obtain ⟨t, ht, et⟩ := (okc k hk).2.2.1
  have hs0 : s ≠ 0 := fun q => by
    have := (okk.1 c hc).mpr (by rw [es, q])
    rw [eo] at this
    exact absurd this ne01
  have ht0 : t ≠ 0 := fun q => by
    have := (okk.1 k hk).mpr (by rw [et, q])
    rw [eo2] at this
    exact absurd this ne01
  have hc8 : c < 8 := by omega
  have hk8 : k < 8 := by omega
  by_cases hlt : c < k
  · have m1 : min c k = c := by omega
    have m2 : max c k = k := by omega
    refine ⟨s, t, hs, ht, hs0, ht0, fun d => ?_, fun d => ?_⟩
    · simp -implicitDefEqProofs (disch := (first | omega | assumption | exact am_isS_3 | exact am_isS_25 | exact am_isX_356 | exact am_isX_359)) only [uS_pairOf, ggS_pairOf_0, ggS_pairOf_1, ggS_pairOf_2, r12, ek, pn_min, pn_max, m1, m2, es, et, pr_at hs ht, am_kI_x, am_kV_x, am_kI_i, am_nI_i, am_kV_i, am_nV_i, ↓reduceIte, eq_self, if_true, if_false, c_in, c_tn, pn_add, pn_mul, pn_subc, pn_addm, c_le_t, c_le_f, c_lt_t, c_lt_f, c_eq_f, c_eqm, bi_z, bi_1, bi_b, bi_T, bi_F, ite_not, up_eq, up_ne, or_self, or_true, true_or, or_false, false_or, and_true, true_and, and_self, not_true_eq_false, not_false_eq_true, Bool.false_eq_true]
    · simp -implicitDefEqProofs (disch := (first | omega | assumption | exact am_isS_3 | exact am_isS_25 | exact am_isX_356 | exact am_isX_359)) only [uR_stateOf, ggR_stateOf_0, ccR_stateOf_0_4, ccR_stateOf_0_3, ccR_stateOf_0_2, ccR_stateOf_0_1, ggR_lesserOf_0, ccR_lesserOf_0_1, uR_lesserOf, rR_of, ek, pn_min, m1, es, et, pr_at hs ht, am_kI_x, am_kV_x, am_kI_i, am_nI_i, am_kV_i, am_nV_i, ↓reduceIte, eq_self, if_true, if_false, c_in, c_tn, pn_add, pn_mul, pn_subc, pn_addm, c_le_t, c_le_f, c_lt_t, c_lt_f, c_eq_f, c_eqm, bi_z, bi_1, bi_b, bi_T, bi_F, ite_not, up_eq, up_ne, or_self, or_true, true_or, or_false, false_or, and_true, true_and, and_self, not_true_eq_false, not_false_eq_true, Bool.false_eq_true]
  · have m1 : min c k = k := by omega
    have m2 : max c k = c := by omega
    refine ⟨t, s, ht, hs, ht0, hs0, fun d => ?_, fun d => ?_⟩
    · simp -implicitDefEqProofs (disch := (first | omega | assumption | exact am_isS_3 | exact am_isS_25 | exact am_isX_356 | exact am_isX_359)) only [uS_pairOf, ggS_pairOf_0, ggS_pairOf_1, ggS_pairOf_2, r12, ek, pn_min, pn_max, m1, m2, es, et, pr_at ht hs, am_kI_x, am_kV_x, am_kI_i, am_nI_i, am_kV_i, am_nV_i, ↓reduceIte, eq_self, if_true, if_false, c_in, c_tn, pn_add, pn_mul, pn_subc, pn_addm, c_le_t, c_le_f, c_lt_t, c_lt_f, c_eq_f, c_eqm, bi_z, bi_1, bi_b, bi_T, bi_F, ite_not, up_eq, up_ne, or_self, or_true, true_or, or_false, false_or, and_true, true_and, and_self, not_true_eq_false, not_false_eq_true, Bool.false_eq_true]
    · simp -implicitDefEqProofs (disch := (first | omega | assumption | exact am_isS_3 | exact am_isS_25 | exact am_isX_356 | exact am_isX_359)) only [uR_stateOf, ggR_stateOf_0, ccR_stateOf_0_4, ccR_stateOf_0_3, ccR_stateOf_0_2, ccR_stateOf_0_1, ggR_lesserOf_0, ccR_lesserOf_0_1, uR_lesserOf, rR_of, ek, ec, pn_min, m1, es, et, pr_at ht hs, am_kI_x, am_kV_x, am_kI_i, am_nI_i, am_kV_i, am_nV_i, ↓reduceIte, eq_self, if_true, if_false, c_in, c_tn, pn_add, pn_mul, pn_subc, pn_addm, c_le_t, c_le_f, c_lt_t, c_lt_f, c_eq_f, c_eqm, bi_z, bi_1, bi_b, bi_T, bi_F, ite_not, up_eq, up_ne, or_self, or_true, true_or, or_false, false_or, and_true, true_and, and_self, not_true_eq_false, not_false_eq_true, Bool.false_eq_true]
theorem T_can (x : Int32) : Two qF_can [.ref 0, .int x] qR_can [.ref 373, .int x] (am_ctt 14) := by
  intro d hC hR J
  have J0 := J.thr (Int32.ofNat 0)
  obtain ⟨⟨N, G, L⟩, -⟩ := id J
  obtain ⟨R, okt, okc, okk, RL⟩ := id L
  have hN := R.1
  have r3 := R.2.2.1
  have r4 := R.2.2.2.1
  have r12 := R.2.2.2.2.2.2.2.2.2.2.2.1
  rcases ch_cases hN x with ⟨c, hc, rfl⟩ | ⟨b1, b2⟩
  · have hc8 : c < 8 := by omega
    rcases (okc c hc).2.2.2.2.2.2.2.2 with hk | ⟨k, hk, ek⟩
    · have ep := fun d => sS_pairOf0 am_isS_3 (h := hC) hc8 (by rw [r12 8 c (by omega) hc8]; exact hk) d
      refine ⟨hC, am_up hR 373 0 (Int32.ofNat 0), J0, rfl, Or.inl ⟨(Int32.ofNat 0), rfl, up_eq rfl rfl, ?_, ?_⟩⟩
      · simp -implicitDefEqProofs (disch := (first | omega | assumption | exact am_isS_3 | exact am_isS_25 | exact am_isX_356 | exact am_isX_359)) only [uF_can, ggF_can_0, ggF_can_1, ggF_can_2, ggF_can_3, ccF_can_0_2, ccF_can_0_1, ccF_can_2_1, xF_needChild hN r4 hc, ep, am_kI_x, am_kV_x, am_kI_i, am_nI_i, am_kV_i, am_nV_i, ↓reduceIte, eq_self, if_true, if_false, c_in, c_tn, pn_add, pn_mul, pn_subc, pn_addm, c_le_t, c_le_f, c_lt_t, c_lt_f, c_eq_f, c_eqm, bi_z, bi_1, bi_b, bi_T, bi_F, ite_not, up_eq, up_ne, or_self, or_true, true_or, or_false, false_or, and_true, true_and, and_self, not_true_eq_false, not_false_eq_true, Bool.false_eq_true]
      · simp -implicitDefEqProofs (disch := (first | omega | assumption | exact am_isS_3 | exact am_isS_25 | exact am_isX_356 | exact am_isX_359)) only [uR_can, ggR_can_0, ggR_can_1, ggR_can_2, ggR_can_3, ggR_can_5, ggR_can_6, ggR_can_7, ggR_can_8, ggR_can_9, ccR_can_0_2, ccR_can_0_1, ccR_can_1_1, ccR_can_5_2, ccR_can_5_1, rR_noChild, rR_hasKnot, rR_throwsIf_f, up_o, r3, hk, am_kI_x, am_kV_x, am_kI_i, am_nI_i, am_kV_i, am_nV_i, ↓reduceIte, eq_self, if_true, if_false, c_in, c_tn, pn_add, pn_mul, pn_subc, pn_addm, c_le_t, c_le_f, c_lt_t, c_lt_f, c_eq_f, c_eqm, bi_z, bi_1, bi_b, bi_T, bi_F, ite_not, up_eq, up_ne, or_self, or_true, true_or, or_false, false_or, and_true, true_and, and_self, not_true_eq_false, not_false_eq_true, Bool.false_eq_true]
    · have L0 : Lk hC (am_up hR 373 0 (Int32.ofNat 0)) 3 N G := L.row (up_o (by omega))
      obtain ⟨s, t, hs, ht, hs0, ht0, pC, pR⟩ := pair_both L0 hc hk (by rw [up_o (by omega)]; exact ek)
      have mC := fun d => xK_movesNow (p := s + 32 * t) (by omega) d hC
      refine ⟨hC, am_up hR 373 0 (Int32.ofNat 0), J0, rfl, Or.inl ⟨bset (kmv (s + 32 * t)) 10, rfl, up_eq rfl rfl, ?_, ?_⟩⟩
      · simp -implicitDefEqProofs (disch := (first | omega | assumption | exact am_isS_3 | exact am_isS_25 | exact am_isX_356 | exact am_isX_359)) only [uF_can, ggF_can_0, ggF_can_1, ggF_can_2, ggF_can_3, ccF_can_0_2, ccF_can_0_1, ccF_can_2_1, xF_needChild hN r4 hc, pC, mC, am_kI_x, am_kV_x, am_kI_i, am_nI_i, am_kV_i, am_nV_i, ↓reduceIte, eq_self, if_true, if_false, c_in, c_tn, pn_add, pn_mul, pn_subc, pn_addm, c_le_t, c_le_f, c_lt_t, c_lt_f, c_eq_f, c_eqm, bi_z, bi_1, bi_b, bi_T, bi_F, ite_not, up_eq, up_ne, or_self, or_true, true_or, or_false, false_or, and_true, true_and, and_self, not_true_eq_false, not_false_eq_true, Bool.false_eq_true]
      · have l : am_go (am_cl (d + 119)) qR_can 4 [.ref 373, .int (Int32.ofNat c), .int (Int32.ofNat 0), .int (Int32.ofNat 0)] [] (am_up hR 373 0 (Int32.ofNat 0)) = some (.inl (some (bset (kmv (s + 32 * t)) 10)), am_up hR 373 0 (Int32.ofNat 0)) := by
          refine lp (N := 10) (L := fun i b => [.ref 373, .int (Int32.ofNat c), .int b, .int (Int32.ofNat i)]) (H := fun _ => am_up hR 373 0 (Int32.ofNat 0)) (R := fun b => some (.inl (some (b)), am_up hR 373 0 (Int32.ofNat 0))) _ (fun i b hi => ?_) (fun b => ?_) 10 0 (Int32.ofNat 0) (by omega)
          · rw [ggR_can_4]
            have e := fun d h => rR_mayMoveIn (p := s + 32 * t) (m := i) (by omega) hi d h
            by_cases hq : kmv (s + 32 * t) i = true
            · simp only [bi_t hq] at e
              simp -implicitDefEqProofs (disch := (first | omega | assumption | exact am_isS_3 | exact am_isS_25 | exact am_isX_356 | exact am_isX_359)) only [ggR_can_0, ggR_can_1, ggR_can_2, ggR_can_3, ggR_can_5, ggR_can_6, ggR_can_7, ggR_can_8, ggR_can_9, ccR_can_0_2, ccR_can_0_1, ccR_can_1_1, ccR_can_5_2, ccR_can_5_1, pR, e, hq, am_kI_x, am_kV_x, am_kI_i, am_nI_i, am_kV_i, am_nV_i, ↓reduceIte, eq_self, if_true, if_false, c_in, c_tn, pn_add, pn_mul, pn_subc, pn_addm, c_le_t, c_le_f, c_lt_t, c_lt_f, c_eq_f, c_eqm, bi_z, bi_1, bi_b, bi_T, bi_F, ite_not, up_eq, up_ne, or_self, or_true, true_or, or_false, false_or, and_true, true_and, and_self, not_true_eq_false, not_false_eq_true, Bool.false_eq_true]
            · simp only [bi_f hq] at e
              simp -implicitDefEqProofs (disch := (first | omega | assumption | exact am_isS_3 | exact am_isS_25 | exact am_isX_356 | exact am_isX_359)) only [ggR_can_0, ggR_can_1, ggR_can_2, ggR_can_3, ggR_can_5, ggR_can_6, ggR_can_7, ggR_can_8, ggR_can_9, ccR_can_0_2, ccR_can_0_1, ccR_can_1_1, ccR_can_5_2, ccR_can_5_1, pR, e, hq, or_zero32, am_kI_x, am_kV_x, am_kI_i, am_nI_i, am_kV_i, am_nV_i, ↓reduceIte, eq_self, if_true, if_false, c_in, c_tn, pn_add, pn_mul, pn_subc, pn_addm, c_le_t, c_le_f, c_lt_t, c_lt_f, c_eq_f, c_eqm, bi_z, bi_1, bi_b, bi_T, bi_F, ite_not, up_eq, up_ne, or_self, or_true, true_or, or_false, false_or, and_true, true_and, and_self, not_true_eq_false, not_false_eq_true, Bool.false_eq_true]
          · rw [ggR_can_4]
            simp -implicitDefEqProofs (disch := (first | omega | assumption | exact am_isS_3 | exact am_isS_25 | exact am_isX_356 | exact am_isX_359)) only [ggR_can_0, ggR_can_1, ggR_can_2, ggR_can_3, ggR_can_5, ggR_can_6, ggR_can_7, ggR_can_8, ggR_can_9, ccR_can_0_2, ccR_can_0_1, ccR_can_1_1, ccR_can_5_2, ccR_can_5_1, am_kI_x, am_kV_x, am_kI_i, am_nI_i, am_kV_i, am_nV_i, ↓reduceIte, eq_self, if_true, if_false, c_in, c_tn, pn_add, pn_mul, pn_subc, pn_addm, c_le_t, c_le_f, c_lt_t, c_lt_f, c_eq_f, c_eqm, bi_z, bi_1, bi_b, bi_T, bi_F, ite_not, up_eq, up_ne, or_self, or_true, true_or, or_false, false_or, and_true, true_and, and_self, not_true_eq_false, not_false_eq_true, Bool.false_eq_true]
        simp -implicitDefEqProofs (disch := (first | omega | assumption | exact am_isS_3 | exact am_isS_25 | exact am_isX_356 | exact am_isX_359)) only [uR_can, ggR_can_0, ggR_can_1, ggR_can_2, ggR_can_3, ggR_can_5, ggR_can_6, ggR_can_7, ggR_can_8, ggR_can_9, ccR_can_0_2, ccR_can_0_1, ccR_can_1_1, ccR_can_5_2, ccR_can_5_1, rR_noChild, rR_hasKnot, rR_throwsIf_f, up_o, r3, ek, am_kI_x, am_kV_x, am_kI_i, am_nI_i, am_kV_i, am_nV_i, ↓reduceIte, eq_self, if_true, if_false, c_in, c_tn, pn_add, pn_mul, pn_subc, pn_addm, c_le_t, c_le_f, c_lt_t, c_lt_f, c_eq_f, c_eqm, bi_z, bi_1, bi_b, bi_T, bi_F, ite_not, up_eq, up_ne, or_self, or_true, true_or, or_false, false_or, and_true, true_and, and_self, not_true_eq_false, not_false_eq_true, Bool.false_eq_true]
        exact l
  · refine ⟨am_th hC, am_up (am_up hR 373 0 (Int32.ofNat 0)) 373 0 (Int32.ofNat 1), (J0.thr (Int32.ofNat 1)).th, rfl, Or.inr ⟨3, 1, (Int32.ofNat 0), rfl, by decide, up_eq rfl rfl, ?_, ?_⟩⟩
    · simp -implicitDefEqProofs (disch := (first | omega | assumption | exact am_isS_3 | exact am_isS_25 | exact am_isX_356 | exact am_isX_359)) only [uF_can, ggF_can_0, ggF_can_1, ggF_can_2, ggF_can_3, ccF_can_0_2, ccF_can_0_1, ccF_can_2_1, xF_needChild_x r4 b2, am_kI_x, am_kV_x, am_kI_i, am_nI_i, am_kV_i, am_nV_i, ↓reduceIte, eq_self, if_true, if_false, c_in, c_tn, pn_add, pn_mul, pn_subc, pn_addm, c_le_t, c_le_f, c_lt_t, c_lt_f, c_eq_f, c_eqm, bi_z, bi_1, bi_b, bi_T, bi_F, ite_not, up_eq, up_ne, or_self, or_true, true_or, or_false, false_or, and_true, true_and, and_self, not_true_eq_false, not_false_eq_true, Bool.false_eq_true]
    · simp -implicitDefEqProofs (disch := (first | omega | assumption | exact am_isS_3 | exact am_isS_25 | exact am_isX_356 | exact am_isX_359)) only [uR_can, ggR_can_0, ggR_can_1, ggR_can_2, ggR_can_3, ggR_can_5, ggR_can_6, ggR_can_7, ggR_can_8, ggR_can_9, ccR_can_0_2, ccR_can_0_1, ccR_can_1_1, ccR_can_5_2, ccR_can_5_1, rR_noChild, rR_throwsIf_t, up_o, r3, b1, k_373, am_kI_x, am_kV_x, am_kI_i, am_nI_i, am_kV_i, am_nV_i, ↓reduceIte, eq_self, if_true, if_false, c_in, c_tn, pn_add, pn_mul, pn_subc, pn_addm, c_le_t, c_le_f, c_lt_t, c_lt_f, c_eq_f, c_eqm, bi_z, bi_1, bi_b, bi_T, bi_F, ite_not, up_eq, up_ne, or_self, or_true, true_or, or_false, false_or, and_true, true_and, and_self, not_true_eq_false, not_false_eq_true, Bool.false_eq_true]
