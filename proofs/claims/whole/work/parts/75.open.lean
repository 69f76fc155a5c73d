/-! a child opens: both sides -/
def frC (o : Nat) (h h' : am_H) : Prop := h'.1 = h.1 ∧ ∀ p, (p < o ∨ o + 22 ≤ p) → p ≠ 340 → p ≠ 341 → h'.2 p = h.2 p
def frR (h h' : am_H) : Prop := h'.1 = h.1 ∧ ∀ p, p ≠ 374 → p ≠ 381 → h'.2 p = h.2 p
theorem frC.rf {o : Nat} {h : am_H} : frC o h h := ⟨rfl, fun _ _ _ _ => rfl⟩
theorem frC.tr {o : Nat} {a b c : am_H} (h1 : frC o a b) (h2 : frC o b c) : frC o a c := ⟨h2.1.trans h1.1, fun p a1 a2 a3 => (h2.2 p a1 a2 a3).trans (h1.2 p a1 a2 a3)⟩
theorem frR.rf {h : am_H} : frR h h := ⟨rfl, fun _ _ _ => rfl⟩
theorem frR.tr {a b c : am_H} (h1 : frR a b) (h2 : frR b c) : frR a c := ⟨h2.1.trans h1.1, fun p a1 a2 => (h2.2 p a1 a2).trans (h1.2 p a1 a2)⟩
theorem frC.up {o : Nat} {h : am_H} {p i : Nat} {v : Int32} (hp : o ≤ p ∧ p < o + 22) : frC o h (am_up h p i v) := ⟨rfl, fun q h1 h2 h3 => up_o (by omega)⟩
theorem frC.sc {o : Nat} {h h' : am_H} (s : scr h h') : frC o h h' := ⟨s.1, fun p _ h2 h3 => s.2 p h2 h3⟩
theorem frR_cw {h : am_H} {f g : Nat → Int32} : frR h (cw (cw h 381 f) 374 g) := ⟨rfl, fun p h1 h2 => by rw [cw_ne h1, cw_ne h2]⟩
theorem frR_cw4 {h : am_H} {g : Nat → Int32} : frR h (cw h 374 g) := ⟨rfl, fun p h1 h2 => by rw [cw_ne h1]⟩
theorem RelL.of {h h' : am_H} {l : Nat} {W W' : Nat → Int32} (R : RelL h l W) (f : ∀ p, l ≤ p → p ≤ l + 4 → h'.2 p = h.2 p) (e2 : W' 2 = W 2) (eW : ∀ j, 415 ≤ j → j < 1264 → W' j = W j) : RelL h' l W' := by
  refine ⟨fun i hi => by rw [f _ (by omega) (by omega)]; exact R.1 i hi, ?_⟩
  rcases R.2 with ⟨a, b⟩ | ⟨a, L, E, K, n, T, C⟩
  · left
    exact ⟨e2.trans a, by rw [f _ (by omega) (by omega)]; exact b⟩
  · right
    obtain ⟨t1, t2, t3, t4, t5, t6, t7, t8⟩ := T
    obtain ⟨c1, c2, c3⟩ := C
    refine ⟨e2.trans a, L, E, K, n, ⟨t1, ?_, t3, t4, t5, fun i hi => ?_, fun j hj => ?_, t8⟩, ?_, fun i hi => ?_, fun j hj => ?_⟩
    · rw [eW _ (by omega) (by omega)]; exact t2
    · rw [eW _ (by omega) (by omega), eW _ (by omega) (by omega), eW _ (by omega) (by omega), eW _ (by omega) (by omega)]; exact t6 i hi
    · rw [eW _ (by omega) (by omega), eW _ (by omega) (by omega)]; exact t7 j hj
    · rw [f _ (by omega) (by omega)]; exact c1
    · rw [f _ (by omega) (by omega), f _ (by omega) (by omega), f _ (by omega) (by omega), eW _ (by omega) (by omega), eW _ (by omega) (by omega)]; exact c2 i hi
    · rw [f _ (by omega) (by omega)]; exact c3 j hj
/-- the reference's row when a child has opened -/
def openW (W : Nat → Int32) (c : Nat) (v kp : Int32) (G : Nat) : Nat → Int32 := tellW (pu (pu (pu W (43 + 9 * c + 6) v) (43 + 9 * c + 5) kp) (43 + 9 * c + 7) (Int32.ofNat 1)) c G
theorem openW_lo {W : Nat → Int32} {c G j : Nat} {v kp : Int32} (hj : j < 115) (h5 : j ≠ 5) : openW W c v kp G j = pu (pu (pu W (43 + 9 * c + 6) v) (43 + 9 * c + 5) kp) (43 + 9 * c + 7) (Int32.ofNat 1) j := by
  unfold openW tellW
  simp (disch := omega) only [pu_ne, sh_lo]
  done
theorem openW_up {W : Nat → Int32} {c G j : Nat} {v kp : Int32} (hc : c < 8) (hj : 415 ≤ j) : openW W c v kp G j = W j := by
  unfold openW tellW
  simp (disch := omega) only [pu_ne, sh_up]
set_option maxHeartbeats 2000000 in
theorem opens_both {hC hR : am_H} {o N G c : Nat} (ho : am_isS o) (ho2 : o + 22 ≤ 335) (R : RelS hC o (hR.2 374) N G) (okt : okT (hR.2 374)) (okc : okC (hR.2 374) N) (RL : RelL hC 335 (hR.2 374)) (hGN : G < N) (hcN : c < N) (d : Nat) : ∃ hC' hR' v kp, am_cl (d + 5) qS_opens [.ref o, .int (Int32.ofNat c), .ref 335] hC = some (.inl none, hC') ∧ am_go (am_cl (d + 7)) qR_opens 2 [.ref 373, .int (Int32.ofNat c)] [] hR = some (.inl none, hR') ∧ hR'.2 374 = openW (hR.2 374) c v kp G ∧ RelS hC' o (hR'.2 374) N (G + 1) ∧ rg v 1000 ∧ rm kp 8 ∧ frC o hC hC' ∧ frR hR hR' := by
  have RF := R.F
  have R0 := R
  obtain ⟨r1, r2, r3, r4, r5, r6, r7, r8, r9, r10, r11, r12, r13⟩ := R
  have hc : c < 8 := by omega
  obtain ⟨⟨a, ha, ea⟩, ⟨i, hi, ei⟩, -, -, -, -, ⟨ft, hft, eft⟩, -, -⟩ := okc c hcN
  obtain ⟨lv, ⟨lm, hlm, elm⟩, lR, lC⟩ := leads_both ho ho2 RF okt RL hc hi ei
  obtain ⟨f1, eR⟩ := lR hR d rfl
  obtain ⟨hC1, eC, s1, s2⟩ := lC d
  have em : am_min (Int32.ofNat 999) ((Int32.ofNat ft) + lv) = (Int32.ofNat (min 999 (ft + lm))) := by rw [elm, pn_add, pn_min (by omega) (by omega)]
  have em2 : am_min ((Int32.ofNat ft) + lv) (Int32.ofNat 999) = (Int32.ofNat (min 999 (ft + lm))) := by rw [am_min_comm]; exact em
  have R1 : RelS hC1 o (hR.2 374) N G := R0.frame (fun p h1 h2 => s2 p (by omega) (by omega))
  have R2 := ((R1.ch (k := 6) (c := c) (by omega) hc (Int32.ofNat (min 999 (ft + lm)))).ch (k := 5) (c := c) (by omega) hc (if i = 8 then -1 else (Int32.ofNat i))).ch (k := 7) (c := c) (by omega) hc (Int32.ofNat 1)
  have R3 := R2.log hGN c
  have e5 : (pu (pu (pu (hR.2 374) (43 + 9 * c + 6) (Int32.ofNat (min 999 (ft + lm)))) (43 + 9 * c + 5) (if i = 8 then -1 else (Int32.ofNat i))) (43 + 9 * c + 7) (Int32.ofNat 1)) 5 = (Int32.ofNat G) := by
    rw [pu_ne (by omega), pu_ne (by omega), pu_ne (by omega)]; exact r5
  obtain ⟨hC', xC, xR, xf⟩ : ∃ hC', am_cl (d + 5) qS_opens [.ref o, .int (Int32.ofNat c), .ref 335] hC = some (.inl none, hC') ∧ RelS hC' o (openW (hR.2 374) c (Int32.ofNat (min 999 (ft + lm))) (if i = 8 then -1 else (Int32.ofNat i)) G) N (G + 1) ∧ frC o hC hC' := by
    refine ⟨_, ?_, R3, ?_⟩
    · by_cases h8 : i = 8
      · subst h8
        simp -implicitDefEqProofs (disch := (first | omega | assumption | exact am_isS_3 | exact am_isS_25 | exact am_isX_356 | exact am_isX_359)) only [uS_opens, ggS_opens_0, ggS_opens_1, ggS_opens_2, ggS_opens_3, ggS_opens_4, ggS_opens_5, ccS_opens_0_1, eC, s2, iSkc ho, iSnc ho, r12, r6, r7, ei, ea, eft, em2, pu_ne, pu_eq, am_kI_x, am_kV_x, am_kI_i, am_nI_i, am_kV_i, am_nV_i, ↓reduceIte, eq_self, if_true, if_false, c_in, c_tn, pn_add, pn_mul, pn_subc, pn_addm, c_le_t, c_le_f, c_lt_t, c_lt_f, c_eq_f, c_eqm, bi_z, bi_1, bi_b, bi_T, bi_F, ite_not, up_eq, up_ne, or_self, or_true, true_or, or_false, false_or, and_true, true_and, and_self, not_true_eq_false, not_false_eq_true, Bool.false_eq_true]
      · simp -implicitDefEqProofs (disch := (first | omega | assumption | exact am_isS_3 | exact am_isS_25 | exact am_isX_356 | exact am_isX_359)) only [uS_opens, ggS_opens_0, ggS_opens_1, ggS_opens_2, ggS_opens_3, ggS_opens_4, ggS_opens_5, ccS_opens_0_1, eC, s2, iSkc ho, iSnc ho, r12, r6, r7, ei, ea, eft, em2, pu_ne, pu_eq, h8, am_kI_x, am_kV_x, am_kI_i, am_nI_i, am_kV_i, am_nV_i, ↓reduceIte, eq_self, if_true, if_false, c_in, c_tn, pn_add, pn_mul, pn_subc, pn_addm, c_le_t, c_le_f, c_lt_t, c_lt_f, c_eq_f, c_eqm, bi_z, bi_1, bi_b, bi_T, bi_F, ite_not, up_eq, up_ne, or_self, or_true, true_or, or_false, false_or, and_true, true_and, and_self, not_true_eq_false, not_false_eq_true, Bool.false_eq_true]
    · exact (frC.sc ⟨s1, s2⟩).tr ((frC.up (by omega)).tr ((frC.up (by omega)).tr ((frC.up (by omega)).tr ((frC.up (by omega)).tr ((frC.up (by omega)).tr ((frC.up (by omega)).tr ((frC.up (by omega)).tr ((frC.up (by omega)).tr (frC.up (by omega))))))))))
  refine ⟨hC', cw (cw hR 381 f1) 374 (openW (hR.2 374) c (Int32.ofNat (min 999 (ft + lm))) (if i = 8 then -1 else (Int32.ofNat i)) G), (Int32.ofNat (min 999 (ft + lm))), if i = 8 then -1 else (Int32.ofNat i), xC, ?_, cw_eq, by rw [cw_eq]; exact xR, ⟨_, by omega, rfl⟩, ?_, xf, frR_cw⟩
  · unfold openW
    by_cases h8 : i = 8
    · subst h8
      rw [if_pos rfl] at e5 ⊢
      simp -implicitDefEqProofs (disch := (first | omega | assumption | exact am_isS_3 | exact am_isS_25 | exact am_isX_356 | exact am_isX_359)) only [ggR_opens_0, ggR_opens_1, ggR_opens_2, ggR_opens_3, ggR_opens_4, ggR_opens_5, ccR_opens_0_1, ccR_opens_1_1, ccR_opens_2_5, ccR_opens_2_4, ccR_opens_2_3, ccR_opens_2_2, ccR_opens_2_1, ccR_opens_4_1, ccR_opens_5_2, ccR_opens_5_1, rR_at, rR_of, eR, ei, eft, em, up_cw, cw_cw, cw_eq, cw_ne, pu_ne, pu_eq, k_374, n_374, rR_tells (h := cw hR 381 f1) hc (show G < 50 by omega) e5, am_kI_x, am_kV_x, am_kI_i, am_nI_i, am_kV_i, am_nV_i, ↓reduceIte, eq_self, if_true, if_false, c_in, c_tn, pn_add, pn_mul, pn_subc, pn_addm, c_le_t, c_le_f, c_lt_t, c_lt_f, c_eq_f, c_eqm, bi_z, bi_1, bi_b, bi_T, bi_F, ite_not, up_eq, up_ne, or_self, or_true, true_or, or_false, false_or, and_true, true_and, and_self, not_true_eq_false, not_false_eq_true, Bool.false_eq_true]
    · rw [if_neg h8] at e5 ⊢
      simp -implicitDefEqProofs (disch := (first | omega | assumption | exact am_isS_3 | exact am_isS_25 | exact am_isX_356 | exact am_isX_359)) only [ggR_opens_0, ggR_opens_1, ggR_opens_2, ggR_opens_3, ggR_opens_4, ggR_opens_5, ccR_opens_0_1, ccR_opens_1_1, ccR_opens_2_5, ccR_opens_2_4, ccR_opens_2_3, ccR_opens_2_2, ccR_opens_2_1, ccR_opens_4_1, ccR_opens_5_2, ccR_opens_5_1, rR_at, rR_of, eR, ei, eft, em, up_cw, cw_cw, cw_eq, cw_ne, pu_ne, pu_eq, k_374, n_374, rR_tells (h := cw hR 381 f1) hc (show G < 50 by omega) e5, am_kI_x, am_kV_x, am_kI_i, am_nI_i, am_kV_i, am_nV_i, ↓reduceIte, eq_self, if_true, if_false, c_in, c_tn, pn_add, pn_mul, pn_subc, pn_addm, c_le_t, c_le_f, c_lt_t, c_lt_f, c_eq_f, c_eqm, bi_z, bi_1, bi_b, bi_T, bi_F, ite_not, up_eq, up_ne, or_self, or_true, true_or, or_false, false_or, and_true, true_and, and_self, not_true_eq_false, not_false_eq_true, Bool.false_eq_true]
  · by_cases h8 : i = 8
    · left; rw [if_pos h8]
    · right; rw [if_neg h8]; exact ⟨i, by omega, rfl⟩
