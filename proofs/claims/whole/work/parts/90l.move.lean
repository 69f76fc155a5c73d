/-! move -/
theorem kt_all : (List.range 32).all (fun s => (List.range 5).all (fun f => decide (f = 0) || (decide ((Int32.ofNat s &&& ((Int32.ofNat 1 <<< (Int32.ofNat f &&& Int32.ofNat 31)) - Int32.ofNat 1)) = (Int32.ofNat 1 <<< (Int32.ofNat (f - 1) &&& Int32.ofNat 31)) ↔ s % 2 ^ f = 2 ^ (f - 1)) && decide ((Int32.ofNat s >>> (Int32.ofNat f &&& Int32.ofNat 31)) &&& Int32.ofNat 1 = Int32.ofNat 0 ↔ ¬ s / 2 ^ f % 2 = 1) && decide ((Int32.ofNat s >>> (Int32.ofNat f &&& Int32.ofNat 31)) &&& Int32.ofNat 1 = Int32.ofNat 1 ↔ s / 2 ^ f % 2 = 1) && decide (((Int32.ofNat s >>> (Int32.ofNat (f - 1) &&& Int32.ofNat 31)) &&& Int32.ofNat 1 = Int32.ofNat 1 ∧ (Int32.ofNat s &&& ((Int32.ofNat 1 <<< (Int32.ofNat (f - 1) &&& Int32.ofNat 31)) - Int32.ofNat 1)) = Int32.ofNat 0) ↔ s % 2 ^ f = 2 ^ (f - 1))))) = true := by decide +kernel
theorem kt_at {s f : Nat} (hs : s < 32) (hf : f < 5) (h0 : f ≠ 0) : (((Int32.ofNat s) &&& (((Int32.ofNat 1) <<< ((Int32.ofNat f) &&& (Int32.ofNat 31))) - (Int32.ofNat 1))) = ((Int32.ofNat 1) <<< ((Int32.ofNat (f - 1)) &&& (Int32.ofNat 31))) ↔ s % 2 ^ f = 2 ^ (f - 1)) ∧ (((Int32.ofNat s) >>> ((Int32.ofNat f) &&& (Int32.ofNat 31))) &&& (Int32.ofNat 1) = (Int32.ofNat 0) ↔ ¬ s / 2 ^ f % 2 = 1) ∧ (((Int32.ofNat s) >>> ((Int32.ofNat f) &&& (Int32.ofNat 31))) &&& (Int32.ofNat 1) = (Int32.ofNat 1) ↔ s / 2 ^ f % 2 = 1) ∧ ((((Int32.ofNat s) >>> ((Int32.ofNat (f - 1)) &&& (Int32.ofNat 31))) &&& (Int32.ofNat 1) = (Int32.ofNat 1) ∧ ((Int32.ofNat s) &&& (((Int32.ofNat 1) <<< ((Int32.ofNat (f - 1)) &&& (Int32.ofNat 31))) - (Int32.ofNat 1))) = (Int32.ofNat 0)) ↔ s % 2 ^ f = 2 ^ (f - 1)) := by
  have := List.all_eq_true.mp (List.all_eq_true.mp kt_all s (List.mem_range.mpr hs)) f (List.mem_range.mpr hf)
  rw [decide_eq_false h0, Bool.false_or, Bool.and_eq_true, Bool.and_eq_true, Bool.and_eq_true] at this
  exact ⟨of_decide_eq_true this.1.1.1, of_decide_eq_true this.1.1.2, of_decide_eq_true this.1.2, of_decide_eq_true this.2⟩
theorem xK_isMovable {s o f : Nat} (hs : s < 32) (ho : o < 32) (hf : f < 5) (d : Nat) (h : am_H) : am_cl (d + 1) qK_isMovable [.int (Int32.ofNat s), .int (Int32.ofNat o), .int (Int32.ofNat f)] h = some (.inl (some (bi (kmf s o f = true))), h) := by
  by_cases h0 : f = 0
  · subst h0
    have e : bi (kmf s o 0 = true) = (Int32.ofNat 1) := bi_t rfl
    rw [e]
    simp -implicitDefEqProofs (disch := (first | omega | assumption | exact am_isS_3 | exact am_isS_25 | exact am_isX_356 | exact am_isX_359)) only [uK_isMovable, ggK_isMovable_0, ggK_isMovable_1, ggK_isMovable_2, ggK_isMovable_3, ggK_isMovable_4, ggK_isMovable_5, ggK_isMovable_6, am_kI_x, am_kV_x, am_kI_i, am_nI_i, am_kV_i, am_nV_i, ↓reduceIte, eq_self, if_true, if_false, c_in, c_tn, pn_add, pn_mul, pn_subc, pn_addm, c_le_t, c_le_f, c_lt_t, c_lt_f, c_eq_f, c_eqm, bi_z, bi_1, bi_b, bi_T, bi_F, ite_not, up_eq, up_ne, or_self, or_true, true_or, or_false, false_or, and_true, true_and, and_self, not_true_eq_false, not_false_eq_true, Bool.false_eq_true]
  · obtain ⟨a, -, -, -⟩ := kt_at hs hf h0
    obtain ⟨-, b, -, -⟩ := kt_at ho hf h0
    have ek : kmf s o f = (decide (s % 2 ^ f = 2 ^ (f - 1)) && decide (o / 2 ^ f % 2 = 1)) := by
      unfold kmf
      rw [decide_eq_false h0, Bool.false_or]
    by_cases h1 : s % 2 ^ f = 2 ^ (f - 1)
    · have a1 := a.mpr h1
      by_cases h2 : o / 2 ^ f % 2 = 1
      · have b1 : ¬ ((Int32.ofNat o) >>> ((Int32.ofNat f) &&& (Int32.ofNat 31))) &&& (Int32.ofNat 1) = (Int32.ofNat 0) := fun q => b.mp q h2
        rw [bi_t (by rw [ek]; simp [h1, h2])]
        simp -implicitDefEqProofs (disch := (first | omega | assumption | exact am_isS_3 | exact am_isS_25 | exact am_isX_356 | exact am_isX_359)) only [uK_isMovable, ggK_isMovable_0, ggK_isMovable_1, ggK_isMovable_2, ggK_isMovable_3, ggK_isMovable_4, ggK_isMovable_5, ggK_isMovable_6, a1, b1, am_kI_x, am_kV_x, am_kI_i, am_nI_i, am_kV_i, am_nV_i, ↓reduceIte, eq_self, if_true, if_false, c_in, c_tn, pn_add, pn_mul, pn_subc, pn_addm, c_le_t, c_le_f, c_lt_t, c_lt_f, c_eq_f, c_eqm, bi_z, bi_1, bi_b, bi_T, bi_F, ite_not, up_eq, up_ne, or_self, or_true, true_or, or_false, false_or, and_true, true_and, and_self, not_true_eq_false, not_false_eq_true, Bool.false_eq_true]
      · have b1 := b.mpr h2
        rw [bi_f (by rw [ek]; simp [h2])]
        simp -implicitDefEqProofs (disch := (first | omega | assumption | exact am_isS_3 | exact am_isS_25 | exact am_isX_356 | exact am_isX_359)) only [uK_isMovable, ggK_isMovable_0, ggK_isMovable_1, ggK_isMovable_2, ggK_isMovable_3, ggK_isMovable_4, ggK_isMovable_5, ggK_isMovable_6, a1, b1, am_kI_x, am_kV_x, am_kI_i, am_nI_i, am_kV_i, am_nV_i, ↓reduceIte, eq_self, if_true, if_false, c_in, c_tn, pn_add, pn_mul, pn_subc, pn_addm, c_le_t, c_le_f, c_lt_t, c_lt_f, c_eq_f, c_eqm, bi_z, bi_1, bi_b, bi_T, bi_F, ite_not, up_eq, up_ne, or_self, or_true, true_or, or_false, false_or, and_true, true_and, and_self, not_true_eq_false, not_false_eq_true, Bool.false_eq_true]
    · have a1 : ¬ ((Int32.ofNat s) &&& (((Int32.ofNat 1) <<< ((Int32.ofNat f) &&& (Int32.ofNat 31))) - (Int32.ofNat 1))) = ((Int32.ofNat 1) <<< ((Int32.ofNat (f - 1)) &&& (Int32.ofNat 31))) := fun q => h1 (a.mp q)
      rw [bi_f (by rw [ek]; simp [h1])]
      simp -implicitDefEqProofs (disch := (first | omega | assumption | exact am_isS_3 | exact am_isS_25 | exact am_isX_356 | exact am_isX_359)) only [uK_isMovable, ggK_isMovable_0, ggK_isMovable_1, ggK_isMovable_2, ggK_isMovable_3, ggK_isMovable_4, ggK_isMovable_5, ggK_isMovable_6, a1, am_kI_x, am_kV_x, am_kI_i, am_nI_i, am_kV_i, am_nV_i, ↓reduceIte, eq_self, if_true, if_false, c_in, c_tn, pn_add, pn_mul, pn_subc, pn_addm, c_le_t, c_le_f, c_lt_t, c_lt_f, c_eq_f, c_eqm, bi_z, bi_1, bi_b, bi_T, bi_F, ite_not, up_eq, up_ne, or_self, or_true, true_or, or_false, false_or, and_true, true_and, and_self, not_true_eq_false, not_false_eq_true, Bool.false_eq_true]
theorem rR_mayMove {s o f : Nat} (hs : s < 32) (ho : o < 32) (hf : f < 5) (d : Nat) (h : am_H) : am_cl (d + 2) qR_mayMove [.int (Int32.ofNat s), .int (Int32.ofNat o), .int (Int32.ofNat f)] h = some (.inl (some (bi (kmf s o f = true))), h) := by
  by_cases h0 : f = 0
  · subst h0
    have e : bi (kmf s o 0 = true) = (Int32.ofNat 1) := bi_t rfl
    rw [e]
    simp -implicitDefEqProofs (disch := (first | omega | assumption | exact am_isS_3 | exact am_isS_25 | exact am_isX_356 | exact am_isX_359)) only [uR_mayMove, ggR_mayMove_0, ggR_mayMove_1, ggR_mayMove_2, ggR_mayMove_3, ggR_mayMove_4, ggR_mayMove_5, ggR_mayMove_6, ggR_mayMove_7, ccR_mayMove_2_1, ccR_mayMove_4_1, am_kI_x, am_kV_x, am_kI_i, am_nI_i, am_kV_i, am_nV_i, ↓reduceIte, eq_self, if_true, if_false, c_in, c_tn, pn_add, pn_mul, pn_subc, pn_addm, c_le_t, c_le_f, c_lt_t, c_lt_f, c_eq_f, c_eqm, bi_z, bi_1, bi_b, bi_T, bi_F, ite_not, up_eq, up_ne, or_self, or_true, true_or, or_false, false_or, and_true, true_and, and_self, not_true_eq_false, not_false_eq_true, Bool.false_eq_true]
  · obtain ⟨-, -, -, a⟩ := kt_at hs hf h0
    obtain ⟨-, -, b, -⟩ := kt_at ho hf h0
    have ek : kmf s o f = (decide (s % 2 ^ f = 2 ^ (f - 1)) && decide (o / 2 ^ f % 2 = 1)) := by
      unfold kmf
      rw [decide_eq_false h0, Bool.false_or]
    by_cases h1 : s % 2 ^ f = 2 ^ (f - 1)
    · obtain ⟨a1, a2⟩ := a.mpr h1
      by_cases h2 : o / 2 ^ f % 2 = 1
      · have b1 := b.mpr h2
        rw [bi_t (by rw [ek]; simp [h1, h2])]
        simp -implicitDefEqProofs (disch := (first | omega | assumption | exact am_isS_3 | exact am_isS_25 | exact am_isX_356 | exact am_isX_359)) only [uR_mayMove, ggR_mayMove_0, ggR_mayMove_1, ggR_mayMove_2, ggR_mayMove_3, ggR_mayMove_4, ggR_mayMove_5, ggR_mayMove_6, ggR_mayMove_7, ccR_mayMove_2_1, ccR_mayMove_4_1, rR_has, a1, a2, b1, am_kI_x, am_kV_x, am_kI_i, am_nI_i, am_kV_i, am_nV_i, ↓reduceIte, eq_self, if_true, if_false, c_in, c_tn, pn_add, pn_mul, pn_subc, pn_addm, c_le_t, c_le_f, c_lt_t, c_lt_f, c_eq_f, c_eqm, bi_z, bi_1, bi_b, bi_T, bi_F, ite_not, up_eq, up_ne, or_self, or_true, true_or, or_false, false_or, and_true, true_and, and_self, not_true_eq_false, not_false_eq_true, Bool.false_eq_true]
      · have b1 : ¬ ((Int32.ofNat o) >>> ((Int32.ofNat f) &&& (Int32.ofNat 31))) &&& (Int32.ofNat 1) = (Int32.ofNat 1) := fun q => h2 (b.mp q)
        rw [bi_f (by rw [ek]; simp [h2])]
        simp -implicitDefEqProofs (disch := (first | omega | assumption | exact am_isS_3 | exact am_isS_25 | exact am_isX_356 | exact am_isX_359)) only [uR_mayMove, ggR_mayMove_0, ggR_mayMove_1, ggR_mayMove_2, ggR_mayMove_3, ggR_mayMove_4, ggR_mayMove_5, ggR_mayMove_6, ggR_mayMove_7, ccR_mayMove_2_1, ccR_mayMove_4_1, rR_has, a1, a2, b1, am_kI_x, am_kV_x, am_kI_i, am_nI_i, am_kV_i, am_nV_i, ↓reduceIte, eq_self, if_true, if_false, c_in, c_tn, pn_add, pn_mul, pn_subc, pn_addm, c_le_t, c_le_f, c_lt_t, c_lt_f, c_eq_f, c_eqm, bi_z, bi_1, bi_b, bi_T, bi_F, ite_not, up_eq, up_ne, or_self, or_true, true_or, or_false, false_or, and_true, true_and, and_self, not_true_eq_false, not_false_eq_true, Bool.false_eq_true]
    · rw [bi_f (by rw [ek]; simp [h1])]
      by_cases a1 : ((Int32.ofNat s) >>> ((Int32.ofNat (f - 1)) &&& (Int32.ofNat 31))) &&& (Int32.ofNat 1) = (Int32.ofNat 1)
      · have a2 : ¬ ((Int32.ofNat s) &&& (((Int32.ofNat 1) <<< ((Int32.ofNat (f - 1)) &&& (Int32.ofNat 31))) - (Int32.ofNat 1))) = (Int32.ofNat 0) := fun q => h1 (a.mp ⟨a1, q⟩)
        simp -implicitDefEqProofs (disch := (first | omega | assumption | exact am_isS_3 | exact am_isS_25 | exact am_isX_356 | exact am_isX_359)) only [uR_mayMove, ggR_mayMove_0, ggR_mayMove_1, ggR_mayMove_2, ggR_mayMove_3, ggR_mayMove_4, ggR_mayMove_5, ggR_mayMove_6, ggR_mayMove_7, ccR_mayMove_2_1, ccR_mayMove_4_1, rR_has, a1, a2, am_kI_x, am_kV_x, am_kI_i, am_nI_i, am_kV_i, am_nV_i, ↓reduceIte, eq_self, if_true, if_false, c_in, c_tn, pn_add, pn_mul, pn_subc, pn_addm, c_le_t, c_le_f, c_lt_t, c_lt_f, c_eq_f, c_eqm, bi_z, bi_1, bi_b, bi_T, bi_F, ite_not, up_eq, up_ne, or_self, or_true, true_or, or_false, false_or, and_true, true_and, and_self, not_true_eq_false, not_false_eq_true, Bool.false_eq_true]
      · simp -implicitDefEqProofs (disch := (first | omega | assumption | exact am_isS_3 | exact am_isS_25 | exact am_isX_356 | exact am_isX_359)) only [uR_mayMove, ggR_mayMove_0, ggR_mayMove_1, ggR_mayMove_2, ggR_mayMove_3, ggR_mayMove_4, ggR_mayMove_5, ggR_mayMove_6, ggR_mayMove_7, ccR_mayMove_2_1, ccR_mayMove_4_1, rR_has, a1, am_kI_x, am_kV_x, am_kI_i, am_nI_i, am_kV_i, am_nV_i, ↓reduceIte, eq_self, if_true, if_false, c_in, c_tn, pn_add, pn_mul, pn_subc, pn_addm, c_le_t, c_le_f, c_lt_t, c_lt_f, c_eq_f, c_eqm, bi_z, bi_1, bi_b, bi_T, bi_F, ite_not, up_eq, up_ne, or_self, or_true, true_or, or_false, false_or, and_true, true_and, and_self, not_true_eq_false, not_false_eq_true, Bool.false_eq_true]
theorem sx_all : (List.range 32).all (fun s => (List.range 5).all (fun f => decide (Int32.ofNat s ^^^ (Int32.ofNat 1 <<< (Int32.ofNat f &&& Int32.ofNat 31)) = Int32.ofNat (s ^^^ 2 ^ f)) && decide (s ^^^ 2 ^ f < 32))) = true := by decide +kernel
theorem sx_at {s f : Nat} (hs : s < 32) (hf : f < 5) : (Int32.ofNat s) ^^^ ((Int32.ofNat 1) <<< ((Int32.ofNat f) &&& (Int32.ofNat 31))) = (Int32.ofNat (s ^^^ 2 ^ f)) ∧ s ^^^ 2 ^ f < 32 := by
  have := List.all_eq_true.mp (List.all_eq_true.mp sx_all s (List.mem_range.mpr hs)) f (List.mem_range.mpr hf)
  rw [Bool.and_eq_true] at this
  exact ⟨of_decide_eq_true this.1, of_decide_eq_true this.2⟩
/-- the last finger is open, there is no knot: it opens -/
theorem open_lk {hC hR : am_H} {N G c : Nat} (L : Lk hC hR 3 N G) (hcN : c < N) (e7 : hR.2 374 (43 + 9 * c + 7) = (Int32.ofNat 0)) (e8 : hR.2 374 (43 + 9 * c + 8) = -1) (d : Nat) : ∃ hC' hR', am_cl (d + 5) qS_opens [.ref 3, .int (Int32.ofNat c), .ref 335] (am_up hC (3 + 7 + 2) c (Int32.ofNat 0)) = some (.inl none, hC') ∧ am_go (am_cl (d + 7)) qR_opens 2 [.ref 373, .int (Int32.ofNat c)] [] (am_up hR 374 (43 + 9 * c + 2) (Int32.ofNat 0)) = some (.inl none, hR') ∧ Lk hC' hR' 3 N (G + 1) ∧ frC 3 hC hC' ∧ frR hR hR' ∧ hR'.2 374 (43 + 9 * c + 2) = (Int32.ofNat 0) := by
  obtain ⟨R, okt, okc, okk, RL⟩ := L
  have hN : N ≤ 8 := R.1
  have hc : c < 8 := by omega
  have R1 := R.ch (k := 2) (c := c) (by omega) hc (Int32.ofNat 0)
  have okc1 := okc.ch (c := c) (k := 2) (by omega) (rgk_2 ⟨0, by omega, rfl⟩ : rgk 2 (Int32.ofNat 0) N)
  have okt1 : okT (pu (hR.2 374) (43 + 9 * c + 2) (Int32.ofNat 0)) := okt.ch
  have RL1 : RelL (am_up hC (3 + 7 + 2) c (Int32.ofNat 0)) 335 (pu (hR.2 374) (43 + 9 * c + 2) (Int32.ofNat 0)) := RL.of (fun q h1 h2 => up_o (by omega)) (pu_ne (by omega)) (fun j h1 h2 => pu_ne (by omega))
  have hG : G < N := by
    rw [← okk.2.2]
    exact cnt_lt (c := c) (by rw [e7]; decide) hcN
  have eW : (am_up hR 374 (43 + 9 * c + 2) (Int32.ofNat 0)).2 374 = pu (hR.2 374) (43 + 9 * c + 2) (Int32.ofNat 0) := up_pu
  obtain ⟨hC', hR', v, kp, x1, x2, x3, x4, x5, x6, x7, x8⟩ := opens_both (hC := am_up hC (3 + 7 + 2) c (Int32.ofNat 0)) (hR := am_up hR 374 (43 + 9 * c + 2) (Int32.ofNat 0)) (c := c) am_isS_3 (by omega) (by rw [eW]; exact R1) (by rw [eW]; exact okt1) (by rw [eW]; exact okc1) (by rw [eW]; exact RL1) hG hcN d
  rw [eW] at x3
  obtain ⟨k1, k2⟩ := open_ok (G := G) hN hcN okt1 okc1 x5 x6
  have lo : ∀ j, j < 115 → j ≠ 5 → hR'.2 374 j = pu (pu (pu (pu (hR.2 374) (43 + 9 * c + 2) (Int32.ofNat 0)) (43 + 9 * c + 6) v) (43 + 9 * c + 5) kp) (43 + 9 * c + 7) (Int32.ofNat 1) j := fun j h1 h2 => by rw [x3]; exact openW_lo h1 h2
  refine ⟨hC', hR', x1, x2, ⟨x4, by rw [x3]; exact k1, by rw [x3]; exact k2, ?_, ?_⟩, (frC.up (by omega)).tr x7, ⟨x8.1, fun p h1 h2 => by rw [x8.2 p h1 h2, up_o h1]⟩, ?_⟩
  · obtain ⟨a, b, e⟩ := okk
    refine ⟨fun c' hc' => ?_, fun c' k' hc' hk' => ?_, ?_⟩
    · rw [lo _ (by omega) (by omega), lo _ (by omega) (by omega)]
      by_cases hq : c' = c
      · subst hq
        rw [pu_eq rfl, pu_ne (by omega), pu_ne (by omega), pu_ne (by omega), pu_eq rfl]
        exact ⟨fun _ => rfl, fun _ => rfl⟩
      · rw [pu_ne (by omega), pu_ne (by omega), pu_ne (by omega), pu_ne (by omega), pu_ne (by omega), pu_ne (by omega), pu_ne (by omega), pu_ne (by omega)]
        exact a c' hc'
    · rw [lo _ (by omega) (by omega), lo _ (by omega) (by omega), lo _ (by omega) (by omega)]
      rw [pu_ne (by omega), pu_ne (by omega), pu_ne (by omega), pu_ne (by omega), pu_ne (by omega), pu_ne (by omega), pu_ne (by omega), pu_ne (by omega)]
      intro q
      by_cases hq : c' = c
      · subst hq
        rw [e8] at q
        exact absurd q.symm (by rw [c_eqm (by omega)]; exact fun h => h)
      · obtain ⟨b1, b2, b3⟩ := b c' k' hc' hk' q
        refine ⟨b1, b2, ?_⟩
        rw [pu_ne (by omega), pu_ne (by omega), pu_ne (by omega), pu_ne (by omega)]
        exact b3
    · rw [← e]
      refine cnt_set (c := c) (by rw [e7]; decide) ?_ (fun j hj8 hj => ?_) hcN
      · rw [lo _ (by omega) (by omega), pu_eq rfl]; decide
      · rw [lo _ (by omega) (by omega), pu_ne (by omega), pu_ne (by omega), pu_ne (by omega), pu_ne (by omega)]
  · refine RL1.of (fun q h1 h2 => x7.2 q (by omega) (by omega) (by omega)) ?_ (fun j h1 h2 => ?_)
    · rw [lo _ (by omega) (by omega), pu_ne (by omega), pu_ne (by omega), pu_ne (by omega)]
    · rw [x3]; exact openW_up hc h1
  · rw [lo _ (by omega) (by omega), pu_ne (by omega), pu_ne (by omega), pu_ne (by omega), pu_eq rfl]
theorem moveF_both {hC hR : am_H} {N G c f s : Nat} (L : Lk hC hR 3 N G) (hcN : c < N) (hf : f < 5) (hs : s < 32) (es : hR.2 374 (43 + 9 * c + 2) = (Int32.ofNat s)) (e7 : hR.2 374 (43 + 9 * c + 7) = (Int32.ofNat 0)) (d : Nat) : ∃ G' hC' hR', am_cl (d + 6) qS_moveFinger [.ref 3, .int (Int32.ofNat c), .int (Int32.ofNat f), .ref 335] hC = some (.inl none, hC') ∧ am_cl (d + 9) qR_isMoved [.ref 373, .int (Int32.ofNat c), .int (Int32.ofNat f)] hR = some (.inl none, hR') ∧ Lk hC' hR' 3 N G' ∧ frC 3 hC hC' ∧ frR hR hR' ∧ hR'.2 374 (43 + 9 * c + 2) = (Int32.ofNat (s ^^^ 2 ^ f)) := by
  obtain ⟨R, okt, okc, okk, RL⟩ := id L
  have hN : N ≤ 8 := R.1
  have hc : c < 8 := by omega
  obtain ⟨n1, n3⟩ := sx_at hs hf
  have c12 := R.2.2.2.2.2.2.2.2.2.2.2.1
  by_cases h0 : s ^^^ 2 ^ f = 0
  · rw [h0] at n1
    rcases (okc c hcN).2.2.2.2.2.2.2.2 with hk | ⟨k, hk, ek⟩
    · obtain ⟨hC', hR', x1, x2, x3, x4, x5, x6⟩ := open_lk L hcN e7 hk d
      have x1' := am_cl_le (d' := d + 5) (by omega) x1
      have eu := xS_untie0 am_isS_3 (h := am_up hC (3 + 7 + 2) c (Int32.ofNat 0)) hc (by rw [up_ne (by omega), c12 8 c (by omega) hc]; exact hk)
      refine ⟨G + 1, hC', hR', ?_, ?_, x3, x4, x5, by rw [h0]; exact x6⟩
      · simp -implicitDefEqProofs (disch := (first | omega | assumption | exact am_isS_3 | exact am_isS_25 | exact am_isX_356 | exact am_isX_359)) only [uS_moveFinger, ggS_moveFinger_0, ggS_moveFinger_1, ggS_moveFinger_2, ccS_moveFinger_1_2, ccS_moveFinger_1_1, c12, es, n1, eu, x1', am_kI_x, am_kV_x, am_kI_i, am_nI_i, am_kV_i, am_nV_i, ↓reduceIte, eq_self, if_true, if_false, c_in, c_tn, pn_add, pn_mul, pn_subc, pn_addm, c_le_t, c_le_f, c_lt_t, c_lt_f, c_eq_f, c_eqm, bi_z, bi_1, bi_b, bi_T, bi_F, ite_not, up_eq, up_ne, or_self, or_true, true_or, or_false, false_or, and_true, true_and, and_self, not_true_eq_false, not_false_eq_true, Bool.false_eq_true]
      · have hk2 : am_cl (d + 8) qR_opens [.ref 373, .int (Int32.ofNat c)] (am_up hR 374 (43 + 9 * c + 2) (Int32.ofNat 0)) = some (.inl none, hR') := by
          simp -implicitDefEqProofs (disch := (first | omega | assumption | exact am_isS_3 | exact am_isS_25 | exact am_isX_356 | exact am_isX_359)) only [uR_opens, ggR_opens_0, ggR_opens_1, ggR_opens_3, ggR_opens_4, ggR_opens_5, ccR_opens_0_1, ccR_opens_1_1, ccR_opens_2_5, ccR_opens_2_4, ccR_opens_2_3, ccR_opens_2_2, ccR_opens_2_1, ccR_opens_4_1, ccR_opens_5_2, ccR_opens_5_1, rR_hasKnot, hk, am_kI_x, am_kV_x, am_kI_i, am_nI_i, am_kV_i, am_nV_i, ↓reduceIte, eq_self, if_true, if_false, c_in, c_tn, pn_add, pn_mul, pn_subc, pn_addm, c_le_t, c_le_f, c_lt_t, c_lt_f, c_eq_f, c_eqm, bi_z, bi_1, bi_b, bi_T, bi_F, ite_not, up_eq, up_ne, or_self, or_true, true_or, or_false, false_or, and_true, true_and, and_self, not_true_eq_false, not_false_eq_true, Bool.false_eq_true]
          exact x2
        simp -implicitDefEqProofs (disch := (first | omega | assumption | exact am_isS_3 | exact am_isS_25 | exact am_isX_356 | exact am_isX_359)) only [uR_isMoved, ggR_isMoved_0, ggR_isMoved_1, ggR_isMoved_2, ccR_isMoved_0_2, ccR_isMoved_0_1, ccR_isMoved_1_1, rR_at, rR_of, es, n1, hk2, am_kI_x, am_kV_x, am_kI_i, am_nI_i, am_kV_i, am_nV_i, ↓reduceIte, eq_self, if_true, if_false, c_in, c_tn, pn_add, pn_mul, pn_subc, pn_addm, c_le_t, c_le_f, c_lt_t, c_lt_f, c_eq_f, c_eqm, bi_z, bi_1, bi_b, bi_T, bi_F, ite_not, up_eq, up_ne, or_self, or_true, true_or, or_false, false_or, and_true, true_and, and_self, not_true_eq_false, not_false_eq_true, Bool.false_eq_true]
    · have hk8 : k < 8 := by omega
      obtain ⟨q1, q2, q3⟩ := okk.2.1 c k hcN hk ek
      have L1 := L.cut (by omega) hcN hk ek
      obtain ⟨hC', hR', x1, x2, x3, x4, x5, x6⟩ := open_lk L1 hcN (by rw [up_ne (by omega), up_ne (by omega)]; exact e7) (up_eq rfl rfl) d
      rw [up_comm (o := 3 + 7 + 8) (i := c) (o' := 3 + 7 + 2) (i' := c) (by omega), up_comm (h := hC) (o := 3 + 7 + 8) (i := k) (o' := 3 + 7 + 2) (i' := c) (by omega)] at x1
      rw [up_comm (o := 374) (i := 43 + 9 * c + 8) (o' := 374) (i' := 43 + 9 * c + 2) (by omega), up_comm (h := hR) (o := 374) (i := 43 + 9 * k + 8) (o' := 374) (i' := 43 + 9 * c + 2) (by omega)] at x2
      have eu := xS_untie1 am_isS_3 (h := am_up hC (3 + 7 + 2) c (Int32.ofNat 0)) hc hk8 (by rw [up_ne (by omega), c12 8 c (by omega) hc]; exact ek)
      have ec := rR_isCut (h := am_up hR 374 (43 + 9 * c + 2) (Int32.ofNat 0)) hc hk8 (by rw [up_ne (by omega)]; exact ek)
      refine ⟨G + 1, hC', hR', ?_, ?_, x3, ⟨x4.1, fun p h1 h2 h3 => by rw [x4.2 p h1 h2 h3, up_o (by omega), up_o (by omega)]⟩, ⟨x5.1, fun p h1 h2 => by rw [x5.2 p h1 h2, up_o h1, up_o h1]⟩, by rw [h0]; exact x6⟩
      · simp -implicitDefEqProofs (disch := (first | omega | assumption | exact am_isS_3 | exact am_isS_25 | exact am_isX_356 | exact am_isX_359)) only [uS_moveFinger, ggS_moveFinger_0, ggS_moveFinger_1, ggS_moveFinger_2, ccS_moveFinger_1_2, ccS_moveFinger_1_1, c12, es, n1, eu, x1, am_kI_x, am_kV_x, am_kI_i, am_nI_i, am_kV_i, am_nV_i, ↓reduceIte, eq_self, if_true, if_false, c_in, c_tn, pn_add, pn_mul, pn_subc, pn_addm, c_le_t, c_le_f, c_lt_t, c_lt_f, c_eq_f, c_eqm, bi_z, bi_1, bi_b, bi_T, bi_F, ite_not, up_eq, up_ne, or_self, or_true, true_or, or_false, false_or, and_true, true_and, and_self, not_true_eq_false, not_false_eq_true, Bool.false_eq_true]
      · have hk2 : am_cl (d + 8) qR_opens [.ref 373, .int (Int32.ofNat c)] (am_up hR 374 (43 + 9 * c + 2) (Int32.ofNat 0)) = some (.inl none, hR') := by
          simp -implicitDefEqProofs (disch := (first | omega | assumption | exact am_isS_3 | exact am_isS_25 | exact am_isX_356 | exact am_isX_359)) only [uR_opens, ggR_opens_0, ggR_opens_1, ggR_opens_3, ggR_opens_4, ggR_opens_5, ccR_opens_0_1, ccR_opens_1_1, ccR_opens_2_5, ccR_opens_2_4, ccR_opens_2_3, ccR_opens_2_2, ccR_opens_2_1, ccR_opens_4_1, ccR_opens_5_2, ccR_opens_5_1, rR_hasKnot, ek, ec, am_kI_x, am_kV_x, am_kI_i, am_nI_i, am_kV_i, am_nV_i, ↓reduceIte, eq_self, if_true, if_false, c_in, c_tn, pn_add, pn_mul, pn_subc, pn_addm, c_le_t, c_le_f, c_lt_t, c_lt_f, c_eq_f, c_eqm, bi_z, bi_1, bi_b, bi_T, bi_F, ite_not, up_eq, up_ne, or_self, or_true, true_or, or_false, false_or, and_true, true_and, and_self, not_true_eq_false, not_false_eq_true, Bool.false_eq_true]
          exact x2
        simp -implicitDefEqProofs (disch := (first | omega | assumption | exact am_isS_3 | exact am_isS_25 | exact am_isX_356 | exact am_isX_359)) only [uR_isMoved, ggR_isMoved_0, ggR_isMoved_1, ggR_isMoved_2, ccR_isMoved_0_2, ccR_isMoved_0_1, ccR_isMoved_1_1, rR_at, rR_of, es, n1, hk2, am_kI_x, am_kV_x, am_kI_i, am_nI_i, am_kV_i, am_nV_i, ↓reduceIte, eq_self, if_true, if_false, c_in, c_tn, pn_add, pn_mul, pn_subc, pn_addm, c_le_t, c_le_f, c_lt_t, c_lt_f, c_eq_f, c_eqm, bi_z, bi_1, bi_b, bi_T, bi_F, ite_not, up_eq, up_ne, or_self, or_true, true_or, or_false, false_or, and_true, true_and, and_self, not_true_eq_false, not_false_eq_true, Bool.false_eq_true]
  · refine ⟨G, am_up hC (3 + 7 + 2) c (Int32.ofNat (s ^^^ 2 ^ f)), am_up hR 374 (43 + 9 * c + 2) (Int32.ofNat (s ^^^ 2 ^ f)), ?_, ?_, ?_, frC.up (by omega), ⟨rfl, fun p h1 h2 => up_o h1⟩, up_eq rfl rfl⟩
    · simp -implicitDefEqProofs (disch := (first | omega | assumption | exact am_isS_3 | exact am_isS_25 | exact am_isX_356 | exact am_isX_359)) only [uS_moveFinger, ggS_moveFinger_0, ggS_moveFinger_1, ggS_moveFinger_2, ccS_moveFinger_1_2, ccS_moveFinger_1_1, c12, es, n1, am_kI_x, am_kV_x, am_kI_i, am_nI_i, am_kV_i, am_nV_i, ↓reduceIte, eq_self, if_true, if_false, c_in, c_tn, pn_add, pn_mul, pn_subc, pn_addm, c_le_t, c_le_f, c_lt_t, c_lt_f, c_eq_f, c_eqm, bi_z, bi_1, bi_b, bi_T, bi_F, ite_not, up_eq, up_ne, or_self, or_true, true_or, or_false, false_or, and_true, true_and, and_self, not_true_eq_false, not_false_eq_true, Bool.false_eq_true]
    · simp -implicitDefEqProofs (disch := (first | omega | assumption | exact am_isS_3 | exact am_isS_25 | exact am_isX_356 | exact am_isX_359)) only [uR_isMoved, ggR_isMoved_0, ggR_isMoved_1, ggR_isMoved_2, ccR_isMoved_0_2, ccR_isMoved_0_1, ccR_isMoved_1_1, rR_at, rR_of, es, n1, am_kI_x, am_kV_x, am_kI_i, am_nI_i, am_kV_i, am_nV_i, ↓reduceIte, eq_self, if_true, if_false, c_in, c_tn, pn_add, pn_mul, pn_subc, pn_addm, c_le_t, c_le_f, c_lt_t, c_lt_f, c_eq_f, c_eqm, bi_z, bi_1, bi_b, bi_T, bi_F, ite_not, up_eq, up_ne, or_self, or_true, true_or, or_false, false_or, and_true, true_and, and_self, not_true_eq_false, not_false_eq_true, Bool.false_eq_true]
    · rw [up_cw (h := hR)]
      refine ⟨by rw [cw_eq]; exact R.ch (by omega) hc _, by rw [cw_eq]; exact okt.ch, by rw [cw_eq]; exact okc.ch (by omega) (rgk_2 ⟨_, n3, rfl⟩), ?_, by rw [cw_eq]; exact RL.of (fun q h1 h2 => up_o (by omega)) (pu_ne (by omega)) (fun j h1 h2 => pu_ne (by omega))⟩
      rw [cw_eq]
      obtain ⟨a, b, e⟩ := okk
      refine ⟨fun c' hc' => ?_, fun c' k' hc' hk' => ?_, ?_⟩
      · by_cases hq : c' = c
        · subst hq
          rw [pu_ne (by omega), pu_eq rfl, e7]
          refine ⟨fun q => absurd q ne01, fun q => ?_⟩
          rw [c_eq_f h0 (by omega) (by omega)] at q
          exact q.elim
        · rw [pu_ne (by omega), pu_ne (by omega)]
          exact a c' hc'
      · rw [pu_ne (by omega), pu_ne (by omega), pu_ne (by omega)]
        exact b c' k' hc' hk'
      · rw [← e]
        exact cnt_congr (fun j hj => by rw [pu_ne (by omega)])
theorem T_move (x y : Int32) : Two qF_move [.ref 0, .int x, .int y] qR_move [.ref 373, .int x, .int y] (am_ctt 6) := by
  intro d hC hR J
  have J0 := J.thr (Int32.ofNat 0)
  obtain ⟨⟨N, G, R, okt, okc, okk, RL⟩, -⟩ := id J
  have hN := R.1
  have r3 := R.2.2.1
  have r4 := R.2.2.2.1
  have r12 := R.2.2.2.2.2.2.2.2.2.2.2.1
  rcases ch_cases hN x with ⟨c, hc, rfl⟩ | ⟨b1, b2⟩
  · have hc8 : c < 8 := by omega
    rcases rng_cases 4 (by omega) y with ⟨f, hf, rfl⟩ | ⟨b1, b2⟩
    · obtain ⟨w, hw, ew⟩ := (okc c hc).2.2.2.2.2.2.2.1
      obtain ⟨s, hs, es⟩ := (okc c hc).2.2.1
      have bad : (w = 1 ∨ ∃ k t, w = 0 ∧ k < N ∧ t < 32 ∧ hR.2 374 (43 + 9 * c + 8) = (Int32.ofNat k) ∧ hR.2 374 (43 + 9 * k + 2) = (Int32.ofNat t) ∧ kmf s t f = false) → ∃ hC' hR', J2 hC' hR' ∧ hR'.1 = hR.1 ∧ ((∃ v, hC'.1 = hC.1 ∧ hR'.2 373 0 = (Int32.ofNat 0) ∧ am_cl (d + 120) qF_move [.ref 0, .int (Int32.ofNat c), .int (Int32.ofNat f)] hC = some (.inl (some (v)), hC') ∧ am_cl (d + 120) qR_move [.ref 373, .int (Int32.ofNat c), .int (Int32.ofNat f)] hR = some (.inl (some (v)), hR')) ∨ ∃ e t v, hC'.1 = hC.1 + 1 ∧ am_cf (am_ctt 6) e = some t ∧ hR'.2 373 0 = t ∧ am_cl (d + 120) qF_move [.ref 0, .int (Int32.ofNat c), .int (Int32.ofNat f)] hC = some (.inr e, hC') ∧ am_cl (d + 120) qR_move [.ref 373, .int (Int32.ofNat c), .int (Int32.ofNat f)] hR = some (.inl (some (v)), hR')) := fun hb => by
        refine ⟨am_th hC, am_up (am_up hR 373 0 (Int32.ofNat 0)) 373 0 (Int32.ofNat 2), (J0.thr (Int32.ofNat 2)).th, rfl, Or.inr ⟨2, 2, (Int32.ofNat 0), rfl, by decide, up_eq rfl rfl, ?_, ?_⟩⟩
        · rcases hb with rfl | ⟨k, t, rfl, hk, ht, ek, et, em⟩
          · simp -implicitDefEqProofs (disch := (first | omega | assumption | exact am_isS_3 | exact am_isS_25 | exact am_isX_356 | exact am_isX_359)) only [uF_move, ggF_move_0, ggF_move_1, ggF_move_2, ggF_move_3, ggF_move_4, ggF_move_5, ccF_move_0_1, ccF_move_3_1, ccF_move_5_2, ccF_move_5_1, ggS_isMovable_0, ggS_isMovable_1, ggS_isMovable_2, ggS_isMovable_3, ggS_isMovable_4, ggS_isMovable_5, ggS_isMovable_6, ccS_isMovable_3_1, uS_isMovable, xF_needChild hN r4 hc, r12, ew, am_kI_x, am_kV_x, am_kI_i, am_nI_i, am_kV_i, am_nV_i, ↓reduceIte, eq_self, if_true, if_false, c_in, c_tn, pn_add, pn_mul, pn_subc, pn_addm, c_le_t, c_le_f, c_lt_t, c_lt_f, c_eq_f, c_eqm, bi_z, bi_1, bi_b, bi_T, bi_F, ite_not, up_eq, up_ne, or_self, or_true, true_or, or_false, false_or, and_true, true_and, and_self, not_true_eq_false, not_false_eq_true, Bool.false_eq_true]
          · have ekm := xK_isMovable hs ht (show f < 5 by omega)
            rw [em] at ekm
            simp -implicitDefEqProofs (disch := (first | omega | assumption | exact am_isS_3 | exact am_isS_25 | exact am_isX_356 | exact am_isX_359)) only [uF_move, ggF_move_0, ggF_move_1, ggF_move_2, ggF_move_3, ggF_move_4, ggF_move_5, ccF_move_0_1, ccF_move_3_1, ccF_move_5_2, ccF_move_5_1, ggS_isMovable_0, ggS_isMovable_1, ggS_isMovable_2, ggS_isMovable_3, ggS_isMovable_4, ggS_isMovable_5, ggS_isMovable_6, ccS_isMovable_3_1, uS_isMovable, xF_needChild hN r4 hc, r12, ew, es, ek, et, ekm, am_kI_x, am_kV_x, am_kI_i, am_nI_i, am_kV_i, am_nV_i, ↓reduceIte, eq_self, if_true, if_false, c_in, c_tn, pn_add, pn_mul, pn_subc, pn_addm, c_le_t, c_le_f, c_lt_t, c_lt_f, c_eq_f, c_eqm, bi_z, bi_1, bi_b, bi_T, bi_F, ite_not, up_eq, up_ne, or_self, or_true, true_or, or_false, false_or, and_true, true_and, and_self, not_true_eq_false, not_false_eq_true, Bool.false_eq_true]
        · rcases hb with rfl | ⟨k, t, rfl, hk, ht, ek, et, em⟩
          · simp -implicitDefEqProofs (disch := (first | omega | assumption | exact am_isS_3 | exact am_isS_25 | exact am_isX_356 | exact am_isX_359)) only [uR_move, ggR_move_0, ggR_move_1, ggR_move_2, ggR_move_3, ggR_move_4, ggR_move_5, ggR_move_6, ggR_move_7, ggR_move_8, ggR_move_9, ggR_move_10, ggR_move_11, ccR_move_0_1, ccR_move_1_1, ccR_move_4_1, ccR_move_5_1, ccR_move_6_1, ccR_move_9_1, ccR_move_11_3, ccR_move_11_2, ccR_move_11_1, rR_noChild, rR_in, rR_isOpened, rR_throwsIf_f, rR_throwsIf_t, up_o, r3, ew, k_373, am_kI_x, am_kV_x, am_kI_i, am_nI_i, am_kV_i, am_nV_i, ↓reduceIte, eq_self, if_true, if_false, c_in, c_tn, pn_add, pn_mul, pn_subc, pn_addm, c_le_t, c_le_f, c_lt_t, c_lt_f, c_eq_f, c_eqm, bi_z, bi_1, bi_b, bi_T, bi_F, ite_not, up_eq, up_ne, or_self, or_true, true_or, or_false, false_or, and_true, true_and, and_self, not_true_eq_false, not_false_eq_true, Bool.false_eq_true]
          · have ekm := rR_mayMove hs ht (show f < 5 by omega)
            rw [em] at ekm
            simp -implicitDefEqProofs (disch := (first | omega | assumption | exact am_isS_3 | exact am_isS_25 | exact am_isX_356 | exact am_isX_359)) only [uR_move, ggR_move_0, ggR_move_1, ggR_move_2, ggR_move_3, ggR_move_4, ggR_move_5, ggR_move_6, ggR_move_7, ggR_move_8, ggR_move_9, ggR_move_10, ggR_move_11, ccR_move_0_1, ccR_move_1_1, ccR_move_4_1, ccR_move_5_1, ccR_move_6_1, ccR_move_9_1, ccR_move_11_3, ccR_move_11_2, ccR_move_11_1, ggR_canMove_0, ggR_canMove_1, ggR_canMove_2, ggR_canMove_3, ggR_canMove_4, ccR_canMove_0_1, ccR_canMove_1_4, ccR_canMove_1_3, ccR_canMove_1_2, ccR_canMove_1_1, uR_canMove, rR_noChild, rR_in, rR_isOpened, rR_hasKnot, rR_of, rR_throwsIf_f, rR_throwsIf_t, up_o, r3, ew, es, ek, et, ekm, k_373, am_kI_x, am_kV_x, am_kI_i, am_nI_i, am_kV_i, am_nV_i, ↓reduceIte, eq_self, if_true, if_false, c_in, c_tn, pn_add, pn_mul, pn_subc, pn_addm, c_le_t, c_le_f, c_lt_t, c_lt_f, c_eq_f, c_eqm, bi_z, bi_1, bi_b, bi_T, bi_F, ite_not, up_eq, up_ne, or_self, or_true, true_or, or_false, false_or, and_true, true_and, and_self, not_true_eq_false, not_false_eq_true, Bool.false_eq_true]
      by_cases hw1 : w = 1
      · exact bad (Or.inl hw1)
      · have w0 : w = 0 := by omega
        subst w0
        have good : (hR.2 374 (43 + 9 * c + 8) = -1 ∨ ∃ k t, k < N ∧ t < 32 ∧ hR.2 374 (43 + 9 * c + 8) = (Int32.ofNat k) ∧ hR.2 374 (43 + 9 * k + 2) = (Int32.ofNat t) ∧ kmf s t f = true) → ∃ hC' hR', J2 hC' hR' ∧ hR'.1 = hR.1 ∧ ((∃ v, hC'.1 = hC.1 ∧ hR'.2 373 0 = (Int32.ofNat 0) ∧ am_cl (d + 120) qF_move [.ref 0, .int (Int32.ofNat c), .int (Int32.ofNat f)] hC = some (.inl (some (v)), hC') ∧ am_cl (d + 120) qR_move [.ref 373, .int (Int32.ofNat c), .int (Int32.ofNat f)] hR = some (.inl (some (v)), hR')) ∨ ∃ e t v, hC'.1 = hC.1 + 1 ∧ am_cf (am_ctt 6) e = some t ∧ hR'.2 373 0 = t ∧ am_cl (d + 120) qF_move [.ref 0, .int (Int32.ofNat c), .int (Int32.ofNat f)] hC = some (.inr e, hC') ∧ am_cl (d + 120) qR_move [.ref 373, .int (Int32.ofNat c), .int (Int32.ofNat f)] hR = some (.inl (some (v)), hR')) := fun hg => by
          obtain ⟨hC1, hR1, J1, a1, a2, eC, eR, fC, fR, f7⟩ := remember_both J0 (d + 116) (d + 118)
          have fW : hR1.2 374 = hR.2 374 := by rw [fR 374 (by omega) (by omega), up_o (by omega)]
          have L : Lk hC1 hR1 3 N G := Lk.of (hC := hC) (hR := hR) ⟨R, okt, okc, okk, RL⟩ (fun p h1 h2 => fC p (by omega)) (fun p h1 h2 => fC p (by omega)) (fun j _ => by rw [fW])
          obtain ⟨G', hC', hR', m1, m2, L', f1, f2, m3⟩ := moveF_both L hc (f := f) (by omega) hs (by rw [fW]; exact es) (by rw [fW]; exact ew) 100
          have m1 := am_cl_le (d' := d + 119) (by omega) m1
          have m2 := am_cl_le (d' := d + 119) (by omega) m2
          have m4 : hC'.2 (3 + 7 + 2) c = (Int32.ofNat (s ^^^ 2 ^ f)) := by rw [L'.1.2.2.2.2.2.2.2.2.2.2.2.1 2 c (by omega) hc8]; exact m3
          refine ⟨hC', hR', J1.lk L' (fun p h1 h2 h3 => f1.2 p (by omega) h2 h3) f2.2, f2.1.trans a2, Or.inl ⟨(Int32.ofNat (s ^^^ 2 ^ f)), f1.1.trans a1, ?_, ?_, ?_⟩⟩
          · rw [f2.2 373 (by omega) (by omega), f7 0 (by omega)]; exact up_eq rfl rfl
          · rcases hg with hk | ⟨k, t, hk, ht, ek, et, em⟩
            · simp -implicitDefEqProofs (disch := (first | omega | assumption | exact am_isS_3 | exact am_isS_25 | exact am_isX_356 | exact am_isX_359)) only [uF_move, ggF_move_0, ggF_move_1, ggF_move_2, ggF_move_3, ggF_move_4, ggF_move_5, ccF_move_0_1, ccF_move_3_1, ccF_move_5_2, ccF_move_5_1, ggS_isMovable_0, ggS_isMovable_1, ggS_isMovable_2, ggS_isMovable_3, ggS_isMovable_4, ggS_isMovable_5, ggS_isMovable_6, ccS_isMovable_3_1, uS_isMovable, xF_needChild hN r4 hc, r12, ew, hk, eC, m1, m4, am_kI_x, am_kV_x, am_kI_i, am_nI_i, am_kV_i, am_nV_i, ↓reduceIte, eq_self, if_true, if_false, c_in, c_tn, pn_add, pn_mul, pn_subc, pn_addm, c_le_t, c_le_f, c_lt_t, c_lt_f, c_eq_f, c_eqm, bi_z, bi_1, bi_b, bi_T, bi_F, ite_not, up_eq, up_ne, or_self, or_true, true_or, or_false, false_or, and_true, true_and, and_self, not_true_eq_false, not_false_eq_true, Bool.false_eq_true]
            · have ekm := xK_isMovable hs ht (show f < 5 by omega)
              rw [em] at ekm
              simp -implicitDefEqProofs (disch := (first | omega | assumption | exact am_isS_3 | exact am_isS_25 | exact am_isX_356 | exact am_isX_359)) only [uF_move, ggF_move_0, ggF_move_1, ggF_move_2, ggF_move_3, ggF_move_4, ggF_move_5, ccF_move_0_1, ccF_move_3_1, ccF_move_5_2, ccF_move_5_1, ggS_isMovable_0, ggS_isMovable_1, ggS_isMovable_2, ggS_isMovable_3, ggS_isMovable_4, ggS_isMovable_5, ggS_isMovable_6, ccS_isMovable_3_1, uS_isMovable, xF_needChild hN r4 hc, r12, ew, es, ek, et, ekm, eC, m1, m4, am_kI_x, am_kV_x, am_kI_i, am_nI_i, am_kV_i, am_nV_i, ↓reduceIte, eq_self, if_true, if_false, c_in, c_tn, pn_add, pn_mul, pn_subc, pn_addm, c_le_t, c_le_f, c_lt_t, c_lt_f, c_eq_f, c_eqm, bi_z, bi_1, bi_b, bi_T, bi_F, ite_not, up_eq, up_ne, or_self, or_true, true_or, or_false, false_or, and_true, true_and, and_self, not_true_eq_false, not_false_eq_true, Bool.false_eq_true]
          · rcases hg with hk | ⟨k, t, hk, ht, ek, et, em⟩
            · simp -implicitDefEqProofs (disch := (first | omega | assumption | exact am_isS_3 | exact am_isS_25 | exact am_isX_356 | exact am_isX_359)) only [uR_move, ggR_move_0, ggR_move_1, ggR_move_2, ggR_move_3, ggR_move_4, ggR_move_5, ggR_move_6, ggR_move_7, ggR_move_8, ggR_move_9, ggR_move_10, ggR_move_11, ccR_move_0_1, ccR_move_1_1, ccR_move_4_1, ccR_move_5_1, ccR_move_6_1, ccR_move_9_1, ccR_move_11_3, ccR_move_11_2, ccR_move_11_1, ggR_canMove_0, ggR_canMove_1, ggR_canMove_2, ggR_canMove_3, ggR_canMove_4, ccR_canMove_0_1, ccR_canMove_1_4, ccR_canMove_1_3, ccR_canMove_1_2, ccR_canMove_1_1, uR_canMove, rR_noChild, rR_in, rR_isOpened, rR_hasKnot, rR_of, rR_throwsIf_f, up_o, r3, ew, hk, k_373, eR, m2, m3, am_kI_x, am_kV_x, am_kI_i, am_nI_i, am_kV_i, am_nV_i, ↓reduceIte, eq_self, if_true, if_false, c_in, c_tn, pn_add, pn_mul, pn_subc, pn_addm, c_le_t, c_le_f, c_lt_t, c_lt_f, c_eq_f, c_eqm, bi_z, bi_1, bi_b, bi_T, bi_F, ite_not, up_eq, up_ne, or_self, or_true, true_or, or_false, false_or, and_true, true_and, and_self, not_true_eq_false, not_false_eq_true, Bool.false_eq_true]
            · have ekm := rR_mayMove hs ht (show f < 5 by omega)
              rw [em] at ekm
              simp -implicitDefEqProofs (disch := (first | omega | assumption | exact am_isS_3 | exact am_isS_25 | exact am_isX_356 | exact am_isX_359)) only [uR_move, ggR_move_0, ggR_move_1, ggR_move_2, ggR_move_3, ggR_move_4, ggR_move_5, ggR_move_6, ggR_move_7, ggR_move_8, ggR_move_9, ggR_move_10, ggR_move_11, ccR_move_0_1, ccR_move_1_1, ccR_move_4_1, ccR_move_5_1, ccR_move_6_1, ccR_move_9_1, ccR_move_11_3, ccR_move_11_2, ccR_move_11_1, ggR_canMove_0, ggR_canMove_1, ggR_canMove_2, ggR_canMove_3, ggR_canMove_4, ccR_canMove_0_1, ccR_canMove_1_4, ccR_canMove_1_3, ccR_canMove_1_2, ccR_canMove_1_1, uR_canMove, rR_noChild, rR_in, rR_isOpened, rR_hasKnot, rR_of, rR_throwsIf_f, up_o, r3, ew, es, ek, et, ekm, k_373, eR, m2, m3, am_kI_x, am_kV_x, am_kI_i, am_nI_i, am_kV_i, am_nV_i, ↓reduceIte, eq_self, if_true, if_false, c_in, c_tn, pn_add, pn_mul, pn_subc, pn_addm, c_le_t, c_le_f, c_lt_t, c_lt_f, c_eq_f, c_eqm, bi_z, bi_1, bi_b, bi_T, bi_F, ite_not, up_eq, up_ne, or_self, or_true, true_or, or_false, false_or, and_true, true_and, and_self, not_true_eq_false, not_false_eq_true, Bool.false_eq_true]
        rcases (okc c hc).2.2.2.2.2.2.2.2 with hk | ⟨k, hk, ek⟩
        · exact good (Or.inl hk)
        · obtain ⟨t, ht, et⟩ := (okc k hk).2.2.1
          cases em : kmf s t f with
          | true => exact good (Or.inr ⟨k, t, hk, ht, ek, et, em⟩)
          | false => exact bad (Or.inr ⟨k, t, rfl, hk, ht, ek, et, em⟩)
    · refine ⟨am_th hC, am_up (am_up hR 373 0 (Int32.ofNat 0)) 373 0 (Int32.ofNat 1), (J0.thr (Int32.ofNat 1)).th, rfl, Or.inr ⟨3, 1, (Int32.ofNat 0), rfl, by decide, up_eq rfl rfl, ?_, ?_⟩⟩
      · rcases b2 with b2 | ⟨b2, b3, b4⟩
        · simp -implicitDefEqProofs (disch := (first | omega | assumption | exact am_isS_3 | exact am_isS_25 | exact am_isX_356 | exact am_isX_359)) only [uF_move, ggF_move_0, ggF_move_1, ggF_move_2, ggF_move_3, ggF_move_4, ggF_move_5, ccF_move_0_1, ccF_move_3_1, ccF_move_5_2, ccF_move_5_1, xF_needChild hN r4 hc, b2, am_kI_x, am_kV_x, am_kI_i, am_nI_i, am_kV_i, am_nV_i, ↓reduceIte, eq_self, if_true, if_false, c_in, c_tn, pn_add, pn_mul, pn_subc, pn_addm, c_le_t, c_le_f, c_lt_t, c_lt_f, c_eq_f, c_eqm, bi_z, bi_1, bi_b, bi_T, bi_F, ite_not, up_eq, up_ne, or_self, or_true, true_or, or_false, false_or, and_true, true_and, and_self, not_true_eq_false, not_false_eq_true, Bool.false_eq_true]
        · have b4 : (y < (Int32.ofNat 5)) = False := b4
          simp -implicitDefEqProofs (disch := (first | omega | assumption | exact am_isS_3 | exact am_isS_25 | exact am_isX_356 | exact am_isX_359)) only [uF_move, ggF_move_0, ggF_move_1, ggF_move_2, ggF_move_3, ggF_move_4, ggF_move_5, ccF_move_0_1, ccF_move_3_1, ccF_move_5_2, ccF_move_5_1, xF_needChild hN r4 hc, b2, b4, am_kI_x, am_kV_x, am_kI_i, am_nI_i, am_kV_i, am_nV_i, ↓reduceIte, eq_self, if_true, if_false, c_in, c_tn, pn_add, pn_mul, pn_subc, pn_addm, c_le_t, c_le_f, c_lt_t, c_lt_f, c_eq_f, c_eqm, bi_z, bi_1, bi_b, bi_T, bi_F, ite_not, up_eq, up_ne, or_self, or_true, true_or, or_false, false_or, and_true, true_and, and_self, not_true_eq_false, not_false_eq_true, Bool.false_eq_true]
      · simp -implicitDefEqProofs (disch := (first | omega | assumption | exact am_isS_3 | exact am_isS_25 | exact am_isX_356 | exact am_isX_359)) only [uR_move, ggR_move_0, ggR_move_1, ggR_move_2, ggR_move_3, ggR_move_4, ggR_move_5, ggR_move_6, ggR_move_7, ggR_move_8, ggR_move_9, ggR_move_10, ggR_move_11, ccR_move_0_1, ccR_move_1_1, ccR_move_4_1, ccR_move_5_1, ccR_move_6_1, ccR_move_9_1, ccR_move_11_3, ccR_move_11_2, ccR_move_11_1, rR_noChild, rR_in, rR_throwsIf_t, b1, k_373, up_o, r3, am_kI_x, am_kV_x, am_kI_i, am_nI_i, am_kV_i, am_nV_i, ↓reduceIte, eq_self, if_true, if_false, c_in, c_tn, pn_add, pn_mul, pn_subc, pn_addm, c_le_t, c_le_f, c_lt_t, c_lt_f, c_eq_f, c_eqm, bi_z, bi_1, bi_b, bi_T, bi_F, ite_not, up_eq, up_ne, or_self, or_true, true_or, or_false, false_or, and_true, true_and, and_self, not_true_eq_false, not_false_eq_true, Bool.false_eq_true]
  · refine ⟨am_th hC, am_up (am_up hR 373 0 (Int32.ofNat 0)) 373 0 (Int32.ofNat 1), (J0.thr (Int32.ofNat 1)).th, rfl, Or.inr ⟨3, 1, (Int32.ofNat 0), rfl, by decide, up_eq rfl rfl, ?_, ?_⟩⟩
    · simp -implicitDefEqProofs (disch := (first | omega | assumption | exact am_isS_3 | exact am_isS_25 | exact am_isX_356 | exact am_isX_359)) only [uF_move, ggF_move_0, ggF_move_1, ggF_move_2, ggF_move_3, ggF_move_4, ggF_move_5, ccF_move_0_1, ccF_move_3_1, ccF_move_5_2, ccF_move_5_1, xF_needChild_x r4 b2, am_kI_x, am_kV_x, am_kI_i, am_nI_i, am_kV_i, am_nV_i, ↓reduceIte, eq_self, if_true, if_false, c_in, c_tn, pn_add, pn_mul, pn_subc, pn_addm, c_le_t, c_le_f, c_lt_t, c_lt_f, c_eq_f, c_eqm, bi_z, bi_1, bi_b, bi_T, bi_F, ite_not, up_eq, up_ne, or_self, or_true, true_or, or_false, false_or, and_true, true_and, and_self, not_true_eq_false, not_false_eq_true, Bool.false_eq_true]
    · simp -implicitDefEqProofs (disch := (first | omega | assumption | exact am_isS_3 | exact am_isS_25 | exact am_isX_356 | exact am_isX_359)) only [uR_move, ggR_move_0, ggR_move_1, ggR_move_2, ggR_move_3, ggR_move_4, ggR_move_5, ggR_move_6, ggR_move_7, ggR_move_8, ggR_move_9, ggR_move_10, ggR_move_11, ccR_move_0_1, ccR_move_1_1, ccR_move_4_1, ccR_move_5_1, ccR_move_6_1, ccR_move_9_1, ccR_move_11_3, ccR_move_11_2, ccR_move_11_1, rR_noChild, rR_throwsIf_t, b1, k_373, up_o, r3, am_kI_x, am_kV_x, am_kI_i, am_nI_i, am_kV_i, am_nV_i, ↓reduceIte, eq_self, if_true, if_false, c_in, c_tn, pn_add, pn_mul, pn_subc, pn_addm, c_le_t, c_le_f, c_lt_t, c_lt_f, c_eq_f, c_eqm, bi_z, bi_1, bi_b, bi_T, bi_F, ite_not, up_eq, up_ne, or_self, or_true, true_or, or_false, false_or, and_true, true_and, and_self, not_true_eq_false, not_false_eq_true, Bool.false_eq_true]
