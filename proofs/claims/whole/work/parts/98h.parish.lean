/-! a text from its start; a parish is told -/
theorem kd373 : am_kd 373 = 10 := rfl
theorem kk373 : am_kk 10 10 = true := rfl
def startR (hR : am_H) (E : Nat) : am_H := am_up (usedR hR E) 373 16 (Int32.ofNat 0)
theorem startR_o {h : am_H} {m p : Nat} (hp : p ≠ 373) : (startR h m).2 p = h.2 p := by unfold startR; rw [up_o hp, usedR_o hp]
theorem startR_1 {h : am_H} {m : Nat} : (startR h m).1 = h.1 := rfl
theorem startR_i {h : am_H} {m i : Nat} (hi : i = 6 ∨ i = 7 ∨ i = 13 ∨ i = 14 ∨ i = 12) : (startR h m).2 373 i = h.2 373 i := by unfold startR usedR; simp (disch := omega) only [up_ne]
theorem startR_9 {h : am_H} {m : Nat} : (startR h m).2 373 9 = (Int32.ofNat 0) := by unfold startR usedR; simp (disch := omega) only [up_ne, up_eq]
theorem startR_0 {h : am_H} {m : Nat} : (startR h m).2 373 0 = (Int32.ofNat 0) := by unfold startR usedR; simp (disch := omega) only [up_ne, up_eq]
theorem startR_16 {h : am_H} {m : Nat} : (startR h m).2 373 16 = (Int32.ofNat 0) := by unfold startR usedR; simp (disch := omega) only [up_ne, up_eq]
theorem startR_rs {h : am_H} {m : Nat} : startR h m = rs (startR h m) 0 (h.2 373 12).toBitVec.toNat := by
  have e10 : (startR h m).2 373 10 = (Int32.ofNat 0) := by unfold startR usedR; simp (disch := omega) only [up_ne, up_eq]
  unfold rs
  rw [of_toNat, up_self e10, up_self (startR_i (by omega))]
theorem startR_tp {h : am_H} {B : Nat → Nat} {E : Nat} (hE : E ≤ 400) (hB : ∀ i, i < 400 → B i < 256 ∧ h.2 379 i = ((Int32.ofNat (B i))).toInt8.toInt32) : rtp (startR h E) B E := by
  refine ⟨hE, ?_, fun i hi => ?_⟩
  · unfold startR usedR; simp (disch := omega) only [up_ne, up_eq]
  · rw [startR_o (by omega)]; exact hB i hi
theorem read_both {x L : Nat} (hx : am_isX x) (hx2 : 300 ≤ x) (hxL : x = 356 ∧ L = qQ_readLine ∨ x = 359 ∧ L = qY_readLine) {y : Int32} {M : Nat} (hy : y = (Int32.ofNat 1) ∧ M = 14 ∨ y = (Int32.ofNat 0) ∧ M = 12) {hC hR : am_H} {B : Nat → Nat} {E : Nat} (T : tpC hC B E) (e9 : hR.2 373 9 = (Int32.ofNat E)) (hB : ∀ i, i < 400 → B i < 256 ∧ hR.2 379 i = ((Int32.ofNat (B i))).toInt8.toInt32) (d d' : Nat) : ∃ n h1, TV h1 x B E n ∧ h1.2 x 3 = (Int32.ofNat 0) ∧ h1.1 = hC.1 ∧ (∀ p, p ≠ x → p ≠ x + 1 → p ≠ x + 2 → h1.2 p = hC.2 p) ∧ ∀ (Inv : Nat → Nat → am_H → am_H → Prop) (Bad : am_H → am_H → Prop), (∀ i a hC hR, Inv i a hC hR → TV hC x B E n ∧ hC.2 x 3 = (Int32.ofNat a) ∧ rtp hR B E) → (∀ i a hC hR, Inv i a hC hR → Bad hC hR) → (∀ i a hC hR, Inv i a hC hR → Inv i (a + 1) (am_up hC x 3 (Int32.ofNat (a + 1))) hR) → (∀ i a hC hR, i < M → a ≤ n → Inv i a hC hR → LT x L y B E n Inv Bad d d' i a hC hR) → Inv 0 0 h1 (startR hR E) → TO B E n Inv Bad (am_cl (d + 21) qX_read [.ref x, .ref 1, .int (Int32.ofNat M)] hC) (am_cl (d' + 22) qR_readAll [.ref 373, .int y] hR) := by
  have hE := T.1
  obtain ⟨h1, n, s1, s2, s3, s4⟩ := xX_split hx hx2 (B := B) (E := E) (d + 16) 401 0 0 0 (am_up (am_up hC x 2 (Int32.ofNat 0)) x 3 (Int32.ofNat 0)) .null (by omega) ⟨T.1, by rw [up_ne (by omega), up_ne (by omega)]; exact T.2.1, fun i hi => by rw [up_ne (by omega), up_ne (by omega)]; exact T.2.2 i hi⟩ (by omega) (by omega) (by omega) rfl (fun j hj => absurd hj (by omega)) (by rw [up_ne (by omega)]; exact up_eq rfl rfl) (fun j hj => absurd hj (by omega))
  have A1 : h1.2 x 3 = (Int32.ofNat 0) := by rw [s4 x 3 (by omega) (by omega) (by omega)]; exact up_eq rfl rfl
  refine ⟨n, h1, s3, A1, s2, fun p q1 q2 q3 => ?_, fun Inv Bad hI hBd hS hL I0 => ?_⟩
  · funext j
    rw [s4 p j q2 q3 (by omega), up_ne (by omega), up_ne (by omega)]
  have es : am_cl (d + 20) qX_split [.ref x, .ref 1] hC = some (.inl none, h1) := by
    rw [show d + 20 = d + 19 + 1 from rfl, uX_split, ggX_split_0 (Hx0 := hx)]
    exact s1
  have TR := startR_tp (h := hR) (B := B) hE hB
  have eu := fun d => rR_uses e9 d
  have eb := fun d => rR_blanksA (a := 0) (p := 0) TR ⟨by omega, rfl⟩ (hR.2 373 12).toBitVec.toNat d
  rw [← startR_rs] at eb
  have e0 : am_up (usedR hR E) 373 16 (Int32.ofNat 0) = startR hR E := rfl
  have ec := fun d => xX_code hx s3 A1 (Nat.zero_le n) d
  have s10 : (rs (startR hR E) (stt B E 0) (stt B E 0)).2 373 10 = (Int32.ofNat (stt B E 0)) := rs_p
  have s11 : (rs (startR hR E) (stt B E 0) (stt B E 0)).2 373 11 = (Int32.ofNat E) := by rw [rs_ne (by omega)]; exact TR.2.1
  have hle := stt_le (B := B) (E := E) 0
  by_cases hz : stt B E 0 = E
  · rw [cdx_n hz] at ec
    refine Or.inr ⟨h1, startR hR E, stt B E 0, stt B E 0, 0, 0, ?_, ?_, by omega, by omega, I0⟩
    · simp -implicitDefEqProofs (disch := (first | omega | assumption | exact am_isS_3 | exact am_isS_25 | exact am_isX_356 | exact am_isX_359)) only [uX_read, ggX_read_0, ggX_read_1, ggX_read_2, ggX_read_4, ggX_read_5, ggX_read_6, ggX_read_7, ggX_read_8, ggX_read_9, ggX_read_10, ggX_read_11, ccX_read_0_2, ccX_read_0_1, ccX_read_4_1, ccX_read_6_1, ccX_read_8_1, es, ec, am_kI_x, am_kV_x, am_kI_i, am_nI_i, am_kV_i, am_nV_i, ↓reduceIte, eq_self, if_true, if_false, c_in, c_tn, pn_add, pn_mul, pn_subc, pn_addm, c_le_t, c_le_f, c_lt_t, c_lt_f, c_eq_f, c_eqm, bi_z, bi_1, bi_b, bi_T, bi_F, ite_not, up_eq, up_ne, or_self, or_true, true_or, or_false, false_or, and_true, true_and, and_self, not_true_eq_false, not_false_eq_true, Bool.false_eq_true]
    · rw [hz] at s10 s11 eb ⊢
      simp -implicitDefEqProofs (disch := (first | omega | assumption | exact am_isS_3 | exact am_isS_25 | exact am_isX_356 | exact am_isX_359)) only [uR_readAll, ggR_readAll_0, ggR_readAll_1, ggR_readAll_2, ggR_readAll_4, ggR_readAll_5, ggR_readAll_6, ggR_readAll_7, ggR_readAll_8, ggR_readAll_9, ccR_readAll_0_2, ccR_readAll_0_1, ccR_readAll_3_1, ccR_readAll_5_1, ccR_readAll_7_1, eu, e0, eb, s10, s11, am_kI_x, am_kV_x, am_kI_i, am_nI_i, am_kV_i, am_nV_i, ↓reduceIte, eq_self, if_true, if_false, c_in, c_tn, pn_add, pn_mul, pn_subc, pn_addm, c_le_t, c_le_f, c_lt_t, c_lt_f, c_eq_f, c_eqm, bi_z, bi_1, bi_b, bi_T, bi_F, ite_not, up_eq, up_ne, or_self, or_true, true_or, or_false, false_or, and_true, true_and, and_self, not_true_eq_false, not_false_eq_true, Bool.false_eq_true]
  · have c2 := cdx_m2 (hB_of TR) (a := 0) (by omega)
    have ne : ¬ ((Int32.ofNat (stt B E 0)) : Int32) = (Int32.ofNat E) := fun z => hz ((pn_eq (by omega) (by omega)).mp z)
    have r := text_l hx hxL hy hI hBd hS d d' hL M 0 0 h1 (startR hR E) (stt B E 0) (stt B E 0) (by omega) I0 (by omega) tk_st
    have g1 : am_cl (d + 21) qX_read [.ref x, .ref 1, .int (Int32.ofNat M)] hC = am_go (am_cl (d + 20)) qX_read 3 [.ref x, .ref 1, .int (Int32.ofNat M), .int (Int32.ofNat 0)] [] h1 := by
      simp -implicitDefEqProofs (disch := (first | omega | assumption | exact am_isS_3 | exact am_isS_25 | exact am_isX_356 | exact am_isX_359)) only [uX_read, ggX_read_0, ggX_read_1, ggX_read_2, ggX_read_4, ggX_read_5, ggX_read_6, ggX_read_7, ggX_read_8, ggX_read_9, ggX_read_10, ggX_read_11, ccX_read_0_2, ccX_read_0_1, ccX_read_4_1, ccX_read_6_1, ccX_read_8_1, es, ec, c2, am_kI_x, am_kV_x, am_kI_i, am_nI_i, am_kV_i, am_nV_i, ↓reduceIte, eq_self, if_true, if_false, c_in, c_tn, pn_add, pn_mul, pn_subc, pn_addm, c_le_t, c_le_f, c_lt_t, c_lt_f, c_eq_f, c_eqm, bi_z, bi_1, bi_b, bi_T, bi_F, ite_not, up_eq, up_ne, or_self, or_true, true_or, or_false, false_or, and_true, true_and, and_self, not_true_eq_false, not_false_eq_true, Bool.false_eq_true]
    have g2 : am_cl (d' + 22) qR_readAll [.ref 373, .int y] hR = am_go (am_cl (d' + 21)) qR_readAll 3 [.ref 373, .int y, .int (Int32.ofNat 0)] [] (rs (startR hR E) (stt B E 0) (stt B E 0)) := by
      simp -implicitDefEqProofs (disch := (first | omega | assumption | exact am_isS_3 | exact am_isS_25 | exact am_isX_356 | exact am_isX_359)) only [uR_readAll, ggR_readAll_0, ggR_readAll_1, ggR_readAll_2, ggR_readAll_4, ggR_readAll_5, ggR_readAll_6, ggR_readAll_7, ggR_readAll_8, ggR_readAll_9, ccR_readAll_0_2, ccR_readAll_0_1, ccR_readAll_3_1, ccR_readAll_5_1, ccR_readAll_7_1, eu, e0, eb, s10, s11, ne, am_kI_x, am_kV_x, am_kI_i, am_nI_i, am_kV_i, am_nV_i, ↓reduceIte, eq_self, if_true, if_false, c_in, c_tn, pn_add, pn_mul, pn_subc, pn_addm, c_le_t, c_le_f, c_lt_t, c_lt_f, c_eq_f, c_eqm, bi_z, bi_1, bi_b, bi_T, bi_F, ite_not, up_eq, up_ne, or_self, or_true, true_or, or_false, false_or, and_true, true_and, and_self, not_true_eq_false, not_false_eq_true, Bool.false_eq_true]
    rw [g1, g2]
    exact r
theorem J2.txt {hC hR hC' hR' : am_H} (J : J2 hC hR) (L : ∃ N G, Lk hC' hR' 3 N G) (P : jP hC' hR') (K : lb hC' 342) (e1 : hC'.2 1 1 = (Int32.ofNat 0)) (e9 : hR'.2 373 9 = (Int32.ofNat 0)) (e14 : hC'.2 0 14 = hR'.2 373 14) (e13 : hC'.2 0 13 = hC.2 0 13) (f : ∀ p, (p = 2 ∨ (47 ≤ p ∧ p < 69) ∨ (349 ≤ p ∧ p < 354) ∨ p = 362 ∨ p = 363) → hC'.2 p = hC.2 p) (e6 : hR'.2 373 6 = hR.2 373 6) (g : ∀ p, p = 375 ∨ p = 379 → hR'.2 p = hR.2 p) : J2 hC' hR' := by
  obtain ⟨-, ⟨l, hl, -, -, eb⟩, -, ji, -, jk⟩ := J
  refine ⟨L, ⟨0, by omega, e1, e9, fun i hi => ?_⟩, e14, ji.of e13 (fun p q1 q2 => f p (by omega)) (fun p q1 q2 => f p (by omega)) e6 (g _ (by omega)), P, K, ?_⟩
  · rw [f 2 (by omega), g 379 (by omega)]
    exact eb i hi
  · rw [f 362 (by omega), f 363 (by omega)]
    exact jk.2
theorem LT_par {hC hR : am_H} {B : Nat → Nat} {E n i a G : Nat} {d d' : Nat} {Inv : Nat → Nat → am_H → am_H → Prop} {Bad : am_H → am_H → Prop} (H : LO B E n hC hR a G (am_cl (d + 20) qQ_readLine [.ref 356] hC) (am_cl (d' + 20) qR_readParishLine [.ref 373] (rs hR (lte B E a) (stt B E a)))) (T : TV hC 356 B E n) (f : ∀ hC' hR', PF hC hC' → PFR hR hR' → Bad hC' hR') (g : ∀ hC' hR' a' N', hC'.2 356 3 = (Int32.ofNat a') → a < a' → Lk hC' hR' 25 N' G → PF hC hC' → PFR hR hR' → Inv (i + 1) a' hC' hR') : LT 356 qQ_readLine (Int32.ofNat 1) B E n Inv Bad d d' i a hC hR := by
  rcases H with ⟨hC', hR', p', a', q1, q2, q3, q4, q5, q6⟩ | ⟨hC', hR', p', b', a', N', q1, q2, q3, q4, q5, q6, q7, q8, q9⟩
  · refine Or.inl ⟨hC', hR', p', a', q1, ?_, q3, q4, T.pf q5, f _ _ q5 q6⟩
    simp -implicitDefEqProofs (disch := (first | omega | assumption | exact am_isS_3 | exact am_isS_25 | exact am_isX_356 | exact am_isX_359)) only [ggR_readLine_4, ggR_readLine_0, ggR_readLine_1, ggR_readLine_2, ggR_readLine_3, ggR_readLine_4, ggR_readLine_5, ggR_readLine_6, ggR_readLine_7, ggR_readLine_8, ggR_readLine_9, ggR_readLine_10, ccR_readLine_0_1, ccR_readLine_5_1, ccR_readLine_7_1, q2, am_kI_x, am_kV_x, am_kI_i, am_nI_i, am_kV_i, am_nV_i, ↓reduceIte, eq_self, if_true, if_false, c_in, c_tn, pn_add, pn_mul, pn_subc, pn_addm, c_le_t, c_le_f, c_lt_t, c_lt_f, c_eq_f, c_eqm, bi_z, bi_1, bi_b, bi_T, bi_F, ite_not, up_eq, up_ne, or_self, or_true, true_or, or_false, false_or, and_true, true_and, and_self, not_true_eq_false, not_false_eq_true, Bool.false_eq_true]
  · refine Or.inr ⟨hC', hR', p', b', a', q1, ?_, q4, q6, g _ _ _ _ q3 q5 q7 q8 q9⟩
    simp -implicitDefEqProofs (disch := (first | omega | assumption | exact am_isS_3 | exact am_isS_25 | exact am_isX_356 | exact am_isX_359)) only [ggR_readLine_4, ggR_readLine_0, ggR_readLine_1, ggR_readLine_2, ggR_readLine_3, ggR_readLine_4, ggR_readLine_5, ggR_readLine_6, ggR_readLine_7, ggR_readLine_8, ggR_readLine_9, ggR_readLine_10, ccR_readLine_0_1, ccR_readLine_5_1, ccR_readLine_7_1, q2, am_kI_x, am_kV_x, am_kI_i, am_nI_i, am_kV_i, am_nV_i, ↓reduceIte, eq_self, if_true, if_false, c_in, c_tn, pn_add, pn_mul, pn_subc, pn_addm, c_le_t, c_le_f, c_lt_t, c_lt_f, c_eq_f, c_eqm, bi_z, bi_1, bi_b, bi_T, bi_F, ite_not, up_eq, up_ne, or_self, or_true, true_or, or_false, false_or, and_true, true_and, and_self, not_true_eq_false, not_false_eq_true, Bool.false_eq_true]
/-- where a parish's text stands on both sides -/
def ParI (B : Nat → Nat) (E n : Nat) (h1 hR1 : am_H) (_ a : Nat) (hC hR : am_H) : Prop := TV hC 356 B E n ∧ hC.2 356 3 = (Int32.ofNat a) ∧ rtp hR B E ∧ (∃ N G, Lk hC hR 25 N G) ∧ PF h1 hC ∧ PFR hR1 hR
theorem parish_read {hC hR : am_H} (J : jT hC hR) (L : ∃ N G, Lk hC hR 25 N G) (d d' : Nat) : ∃ (B : Nat → Nat) (E n : Nat) (h1 : am_H), E ≤ 400 ∧ h1.1 = hC.1 ∧ (∀ p, p ≠ 356 → p ≠ 357 → p ≠ 358 → h1.2 p = hC.2 p) ∧ TO B E n (ParI B E n h1 (startR hR E)) (fun hC' hR' => PF h1 hC' ∧ PFR (startR hR E) hR') (am_cl (d + 21) qX_read [.ref 356, .ref 1, .int (Int32.ofNat 14)] hC) (am_cl (d' + 22) qR_readAll [.ref 373, .int (Int32.ofNat 1)] hR) := by
  obtain ⟨E, B, hE, e1, e9, hb⟩ := bts_of J
  obtain ⟨n, h1, T1, A1, f1, f2, r⟩ := read_both am_isX_356 (by omega) (Or.inl ⟨rfl, rfl⟩) (y := (Int32.ofNat 1)) (M := 14) (Or.inl ⟨rfl, rfl⟩) (hC := hC) (hR := hR) (B := B) (E := E) ⟨hE, e1, fun i hi => ⟨(hb i hi).1, (hb i hi).2.1⟩⟩ e9 (fun i hi => ⟨(hb i hi).1, (hb i hi).2.2⟩) d d'
  refine ⟨B, E, n, h1, hE, f1, f2, r _ _ (fun i a hC hR I => ⟨I.1, I.2.1, I.2.2.1⟩) (fun i a hC hR I => I.2.2.2.2) (fun i a hC hR I => ?_) (fun i a hC hR hi ha I => ?_) ?_⟩
  · obtain ⟨i1, i2, i3, ⟨N, G, i4⟩, i5, i6⟩ := I
    exact ⟨i1.up (by omega), up_eq rfl rfl, i3, ⟨N, G, i4.fr (fun p q1 q2 => up_o (by omega)) (fun p q1 q2 => up_o (by omega)) rfl⟩, i5.tr PF.at, i6⟩
  · obtain ⟨i1, i2, i3, ⟨N, G, i4⟩, i5, i6⟩ := I
    have tr : ∀ hR', PFR hR hR' → PFR (startR _ E) hR' := fun hR' f => ⟨f.1.trans i6.1, fun p hp => (f.2.1 p hp).trans (i6.2.1 p hp), fun j hj => (f.2.2 j hj).trans (i6.2.2 j hj)⟩
    refine LT_par (G := G) (line_both i1 i2 ha i3 i4 (d + 16) (d' + 13)) i1 (fun hC' hR' P Q => ⟨i5.tr P, tr _ Q⟩) (fun hC' hR' a' N' q1 q2 q3 P Q => ⟨i1.pf P, q1, i3.of (by rw [Q.2.1 373 (by omega)]) (Q.2.1 379 (by omega)), ⟨N', G, q3⟩, i5.tr P, tr _ Q⟩)
  · obtain ⟨N, G, l⟩ := L
    exact ⟨T1, A1, startR_tp hE (fun i hi => ⟨(hb i hi).1, (hb i hi).2.2⟩), ⟨N, G, l.fr (fun p q1 q2 => f2 p (by omega) (by omega) (by omega)) (fun p q1 q2 => f2 p (by omega) (by omega) (by omega)) (startR_o (by omega))⟩, PF.rfl', PFR.rfl'⟩
theorem RelS.cnt {h : am_H} {o : Nat} {W : Nat → Int32} {N G : Nat} (R : RelS h o W N G) (v : Int32) : RelS (am_up h o 6 v) o (pu W 1 v) N G := by
  obtain ⟨r1, r2, r3, r4, r5, r6, r7, r8, r9, r10, r11, r12, r13⟩ := R
  refine ⟨r1, r2, ?_, ?_, ?_, ?_, ?_, ?_, ?_, ?_, ?_, ?_, ?_⟩
  · rw [pu_ne (by omega)]; exact r3
  · rw [up_ne (by omega)]; exact r4
  · rw [pu_ne (by omega)]; exact r5
  · rw [up_ne (by omega)]; exact r6
  · rw [up_ne (by omega), pu_ne (by omega)]; exact r7
  · rw [up_eq rfl rfl, pu_eq rfl]
  · rw [up_ne (by omega), pu_ne (by omega)]; exact r9
  · rw [up_ne (by omega), pu_ne (by omega)]; exact r10
  · intro k' t hk' ht hh
    rw [up_ne (by omega), pu_ne (by omega)]; exact r11 k' t hk' ht hh
  · intro k' c' hk' hc'
    rw [up_ne (by omega), pu_ne (by omega)]; exact r12 k' c' hk' hc'
  · intro k' r hk' hr
    rw [up_ne (by omega), pu_ne (by omega)]; exact r13 k' r hk' hr
theorem rR_parish_14 (d : Nat) (h : am_H) (x1 : Int32) : am_go (am_cl d) qR_parish 14 [.ref 373, .int x1, .null] [] h = some (.inl (some ((Int32.ofNat 0))), cw h 374 (cpy (h.2 376) (h.2 374) 0 1264)) := by
  have l := lp (Φ := am_cl d) (q := qR_parish) (b := 15) (N := 1264) (L := fun i _ => [.ref 373, .int x1, .int (Int32.ofNat i)]) (H := fun s => cw h 374 s) (f := fun i s => pu s i (h.2 376 i)) (R := fun s => some (.inl (some ((Int32.ofNat 0))), cw h 374 s)) (fun i s hi => by
    rw [ggR_parish_15]
    simp -implicitDefEqProofs (disch := (first | omega | assumption | exact am_isS_3 | exact am_isS_25 | exact am_isX_356 | exact am_isX_359)) only [ggR_parish_0, ggR_parish_2, ggR_parish_3, ggR_parish_4, ggR_parish_5, ggR_parish_6, ggR_parish_7, ggR_parish_8, ggR_parish_9, ggR_parish_10, ggR_parish_11, ggR_parish_12, ggR_parish_13, ggR_parish_14, ggR_parish_16, ggR_parish_17, ggR_parish_18, ccR_parish_3_1, ccR_parish_9_1, ccR_parish_13_1, cw_up, cw_ne, up_o, am_kI_x, am_kV_x, am_kI_i, am_nI_i, am_kV_i, am_nV_i, ↓reduceIte, eq_self, if_true, if_false, c_in, c_tn, pn_add, pn_mul, pn_subc, pn_addm, c_le_t, c_le_f, c_lt_t, c_lt_f, c_eq_f, c_eqm, bi_z, bi_1, bi_b, bi_T, bi_F, ite_not, up_eq, up_ne, or_self, or_true, true_or, or_false, false_or, and_true, true_and, and_self, not_true_eq_false, not_false_eq_true, Bool.false_eq_true]) (fun s => by
    rw [ggR_parish_15]
    simp -implicitDefEqProofs (disch := (first | omega | assumption | exact am_isS_3 | exact am_isS_25 | exact am_isX_356 | exact am_isX_359)) only [ggR_parish_0, ggR_parish_2, ggR_parish_3, ggR_parish_4, ggR_parish_5, ggR_parish_6, ggR_parish_7, ggR_parish_8, ggR_parish_9, ggR_parish_10, ggR_parish_11, ggR_parish_12, ggR_parish_13, ggR_parish_14, ggR_parish_16, ggR_parish_17, ggR_parish_18, ccR_parish_3_1, ccR_parish_9_1, ccR_parish_13_1, am_kI_x, am_kV_x, am_kI_i, am_nI_i, am_kV_i, am_nV_i, ↓reduceIte, eq_self, if_true, if_false, c_in, c_tn, pn_add, pn_mul, pn_subc, pn_addm, c_le_t, c_le_f, c_lt_t, c_lt_f, c_eq_f, c_eqm, bi_z, bi_1, bi_b, bi_T, bi_F, ite_not, up_eq, up_ne, or_self, or_true, true_or, or_false, false_or, and_true, true_and, and_self, not_true_eq_false, not_false_eq_true, Bool.false_eq_true]) 1264 0 (h.2 374) (by omega)
  rw [itr_cpy0, cw_self] at l
  rw [ggR_parish_14]
  exact l
theorem rR_parish_0 (d : Nat) (h : am_H) : am_cl (d + 1) qR_parish [.ref 373] h = am_go (am_cl d) qR_parish 3 [.ref 373, .int (Int32.ofNat 1264), .null] [] (cw h 376 (cpy (h.2 374) (h.2 376) 0 1264)) := by
  have l := lp (Φ := am_cl d) (q := qR_parish) (b := 1) (N := 1264) (L := fun i _ => [.ref 373, .int (Int32.ofNat i), .null]) (H := fun s => cw h 376 s) (f := fun i s => pu s i (h.2 374 i)) (R := fun s => am_go (am_cl d) qR_parish 3 [.ref 373, .int (Int32.ofNat 1264), .null] [] (cw h 376 s)) (fun i s hi => by
    rw [ggR_parish_1]
    simp -implicitDefEqProofs (disch := (first | omega | assumption | exact am_isS_3 | exact am_isS_25 | exact am_isX_356 | exact am_isX_359)) only [ggR_parish_0, ggR_parish_2, ggR_parish_4, ggR_parish_5, ggR_parish_6, ggR_parish_7, ggR_parish_8, ggR_parish_9, ggR_parish_10, ggR_parish_11, ggR_parish_12, ggR_parish_13, ggR_parish_14, ggR_parish_16, ggR_parish_17, ggR_parish_18, ccR_parish_3_1, ccR_parish_9_1, ccR_parish_13_1, cw_up, cw_ne, up_o, am_kI_x, am_kV_x, am_kI_i, am_nI_i, am_kV_i, am_nV_i, ↓reduceIte, eq_self, if_true, if_false, c_in, c_tn, pn_add, pn_mul, pn_subc, pn_addm, c_le_t, c_le_f, c_lt_t, c_lt_f, c_eq_f, c_eqm, bi_z, bi_1, bi_b, bi_T, bi_F, ite_not, up_eq, up_ne, or_self, or_true, true_or, or_false, false_or, and_true, true_and, and_self, not_true_eq_false, not_false_eq_true, Bool.false_eq_true]) (fun s => by
    rw [ggR_parish_1]
    simp -implicitDefEqProofs (disch := (first | omega | assumption | exact am_isS_3 | exact am_isS_25 | exact am_isX_356 | exact am_isX_359)) only [ggR_parish_0, ggR_parish_2, ggR_parish_4, ggR_parish_5, ggR_parish_6, ggR_parish_7, ggR_parish_8, ggR_parish_9, ggR_parish_10, ggR_parish_11, ggR_parish_12, ggR_parish_13, ggR_parish_14, ggR_parish_16, ggR_parish_17, ggR_parish_18, ccR_parish_3_1, ccR_parish_9_1, ccR_parish_13_1, am_kI_x, am_kV_x, am_kI_i, am_nI_i, am_kV_i, am_nV_i, ↓reduceIte, eq_self, if_true, if_false, c_in, c_tn, pn_add, pn_mul, pn_subc, pn_addm, c_le_t, c_le_f, c_lt_t, c_lt_f, c_eq_f, c_eqm, bi_z, bi_1, bi_b, bi_T, bi_F, ite_not, up_eq, up_ne, or_self, or_true, true_or, or_false, false_or, and_true, true_and, and_self, not_true_eq_false, not_false_eq_true, Bool.false_eq_true]) 1264 0 (h.2 376) (by omega)
  rw [itr_cpy0, cw_self] at l
  rw [uR_parish, ggR_parish_0]
  exact l
theorem T_parish : Two qF_parish [.ref 0] qR_parish [.ref 373] (am_ctt 0) := by
  intro d hC hR J
  obtain ⟨⟨N, G, L⟩, jt, jf, ji, jp, jk⟩ := id J
  obtain ⟨R, okt, okc, okk, RL⟩ := id L
  have hN := R.1
  obtain ⟨w, hw, ew⟩ := okt.2.2.1
  have r8 := R.2.2.2.2.2.2.2.1
  obtain ⟨h1, a1, a2, a3, a4⟩ := copy25 (hC := hC) (d + 117)
  have eS : (cw hR 376 (cpy (hR.2 374) (hR.2 376) 0 1264)).2 376 = cpy (hR.2 374) (hR.2 376) 0 1264 := cw_eq
  have eo : ∀ p, p ≠ 376 → (cw hR 376 (cpy (hR.2 374) (hR.2 376) 0 1264)).2 p = hR.2 p := fun p hp => cw_ne hp
  have eR := rR_parish_0 (d + 119) hR
  have L1 : Lk h1 (cw hR 376 (cpy (hR.2 374) (hR.2 376) 0 1264)) 25 N G := (a4 _ _ _ L).row (eo 374 (by omega))
  have jt1 : jT h1 (cw hR 376 (cpy (hR.2 374) (hR.2 376) 0 1264)) := jt.of (by rw [a3 1 (by omega)]) (a3 2 (by omega)) (by rw [eo 373 (by omega)]) (eo 379 (by omega))
  have e1' : (cw hR 376 (cpy (hR.2 374) (hR.2 376) 0 1264)).1 = hR.1 := rfl
  generalize cw hR 376 (cpy (hR.2 374) (hR.2 376) 0 1264) = hR0 at *
  obtain ⟨B, E, n, h2, hE, f1, f2, to⟩ := parish_read jt1 ⟨N, G, L1⟩ (d + 98) (d + 97)
  have F2 : ∀ p, p < 25 ∨ 47 ≤ p → (p < 356 ∨ 359 ≤ p) → h2.2 p = hC.2 p := fun p q1 q2 => by rw [f2 p (by omega) (by omega) (by omega), a3 p (by omega)]
  -- what throws: all is as it was, but what was fed and where the fault is
  have thr : ∀ (hC' hR1 : am_H) (s : Int32), PF h2 hC' → hR1.2 376 = cpy (hR.2 374) (hR.2 376) 0 1264 → (∀ j, 1264 ≤ j → hR1.2 374 j = hR.2 374 j) → (∀ i, i = 6 ∨ i = 7 → hR1.2 373 i = hR.2 373 i) → hR1.2 373 9 = (Int32.ofNat 0) → hR1.2 373 14 = s → (∀ p, p = 375 ∨ p = 378 ∨ p = 379 → hR1.2 p = hR.2 p) → J2 (am_th (am_up (am_up hC' 0 14 s) 1 1 (Int32.ofNat 0))) (cw hR1 374 (cpy (hR1.2 376) (hR1.2 374) 0 1264)) := by
    intro hC' hR1 s P g1 g2 g3 g4 g5 g6
    have eW : ∀ j, j < 1264 → (cw hR1 374 (cpy (hR1.2 376) (hR1.2 374) 0 1264)).2 374 j = hR.2 374 j := fun j hj => by
      rw [cw_eq, cpy_in (by omega), g1, cpy_in (by omega), Nat.sub_zero, Nat.sub_zero]
    have ec : ∀ p, p ≠ 0 → p ≠ 1 → (p < 25 ∨ 47 ≤ p) → p ≠ 340 → p ≠ 341 → (p < 356 ∨ 359 ≤ p) → (am_up (am_up hC' 0 14 s) 1 1 (Int32.ofNat 0)).2 p = hC.2 p := fun p q1 q2 q3 q4 q5 q6 => by
      rw [up_o q2, up_o q1, P.2.1 p (by omega) (by omega) (by omega) (by omega), F2 p (by omega) (by omega)]
    refine J2.th (J.txt ⟨N, G, L.of (fun p q1 q2 => ec p (by omega) (by omega) (by omega) (by omega) (by omega) (by omega)) (fun p q1 q2 => ec p (by omega) (by omega) (by omega) (by omega) (by omega) (by omega)) eW⟩ ?_ ?_ (up_eq rfl rfl) (by rw [cw_ne (by omega)]; exact g4) ?_ ?_ (fun p hp => ec p (by omega) (by omega) (by omega) (by omega) (by omega) (by omega)) (by rw [cw_ne (by omega)]; exact g3 6 (by omega)) (fun p hp => by rw [cw_ne (by omega)]; exact g6 p (by omega)))
    · exact jp.of (ec 69 (by omega) (by omega) (by omega) (by omega) (by omega) (by omega)) (fun p q1 q2 => ec p (by omega) (by omega) (by omega) (by omega) (by omega) (by omega)) (by rw [cw_ne (by omega)]; exact g3 7 (by omega)) (by rw [cw_ne (by omega)]; exact g6 378 (by omega)) (eW 2 (by omega))
    · intro i hi
      have := jk.1 i hi
      rw [show (342 + 1) = 343 from rfl] at this ⊢
      rw [ec 343 (by omega) (by omega) (by omega) (by omega) (by omega) (by omega)]
      exact this
    · rw [cw_ne (by omega), up_ne (by omega), up_eq rfl rfl]; exact g5.symm
    · rw [up_ne (by omega), up_ne (by omega), P.2.1 0 (by omega) (by omega) (by omega) (by omega), F2 0 (by omega) (by omega)]
  have hs : ∀ a, ¬ ((Int32.ofNat (stt B E a)) : Int32) = -1 := fun a z => ne_m1 (by have := stt_le (B := B) (E := E) a; omega) z.symm
  have qf : ∀ hR', PFR (startR hR0 E) hR' → hR'.1 = hR.1 ∧ hR'.2 376 = cpy (hR.2 374) (hR.2 376) 0 1264 ∧ (∀ j, (j = 1 ∨ j = 2 ∨ 115 ≤ j) → hR'.2 374 j = hR.2 374 j) ∧ (∀ i, i = 6 ∨ i = 7 → hR'.2 373 i = hR.2 373 i) ∧ hR'.2 373 9 = (Int32.ofNat 0) ∧ (∀ p, p = 375 ∨ p = 378 ∨ p = 379 → hR'.2 p = hR.2 p) ∧ hR'.2 373 0 = (Int32.ofNat 0) := fun hR' Q => by
    refine ⟨by rw [Q.1]; exact e1', by rw [Q.2.1 376 (by omega), startR_o (by omega)]; exact eS, fun j hj => by rw [Q.2.2 j hj, startR_o (by omega), eo 374 (by omega)], fun i hi => by rw [Q.2.1 373 (by omega), startR_i (by omega), eo 373 (by omega)], by rw [Q.2.1 373 (by omega)]; exact startR_9, fun p hp => by rw [Q.2.1 p (by omega), startR_o (by omega), eo p (by omega)], by rw [Q.2.1 373 (by omega)]; exact startR_0⟩
  have thr2 : ∀ (hC' hR' : am_H) (p b : Nat) (s t : Int32), PF h2 hC' → PFR (startR hR0 E) hR' → J2 (am_th (am_up (am_up hC' 0 14 s) 1 1 (Int32.ofNat 0))) (cw (am_up (am_up (rs hR' p b) 373 14 s) 373 0 t) 374 (cpy ((am_up (am_up (rs hR' p b) 373 14 s) 373 0 t).2 376) ((am_up (am_up (rs hR' p b) 373 14 s) 373 0 t).2 374) 0 1264)) := fun hC' hR' p b s t P Q => by
    obtain ⟨-, k2, k3, k4, k5, k6, -⟩ := qf hR' Q
    refine thr hC' _ s P ?_ (fun j hj => ?_) (fun i hi => ?_) ?_ ?_ (fun p hp => ?_)
    · rw [up_o (by omega), up_o (by omega), rs_o (by omega)]; exact k2
    · rw [up_o (by omega), up_o (by omega), rs_o (by omega)]; exact k3 j (by omega)
    · rw [up_ne (by omega), up_ne (by omega), rs_ne (by omega)]; exact k4 i hi
    · rw [up_ne (by omega), up_ne (by omega), rs_ne (by omega)]; exact k5
    · rw [up_ne (by omega)]; exact up_eq rfl rfl
    · rw [up_o (by omega), up_o (by omega), rs_o (by omega)]; exact k6 p hp
  have e14 := rR_parish_14
  rcases to with ⟨hC', hR', p', a', q1, q2, P, Q⟩ | ⟨hC', hR', p', b', a', k, q1, q2, hk, ha, i1, i2, i3, ⟨N2, G2, L2⟩, P, Q⟩
  · have hsa := hs a'
    refine ⟨_, _, thr2 hC' hR' p' (stt B E a') (Int32.ofNat (stt B E a')) (Int32.ofNat 1) P Q, (qf hR' Q).1, Or.inr ⟨1, 1, (Int32.ofNat 0), ?_, by decide, ?_, ?_, ?_⟩⟩
    · show hC'.1 + 1 = hC.1 + 1
      rw [P.1, f1, a2]
    · rw [cw_ne (by omega)]; exact up_eq rfl rfl
    · simp -implicitDefEqProofs (disch := (first | omega | assumption | exact am_isS_3 | exact am_isS_25 | exact am_isX_356 | exact am_isX_359)) only [uF_parish, ggF_parish_0, ggF_parish_1, ggF_parish_2, ggF_parish_3, ggF_parish_4, ccF_parish_0_2, ccF_parish_0_1, ccF_parish_4_2, ccF_parish_4_1, a1, q1, hsa, am_kI_x, am_kV_x, am_kI_i, am_nI_i, am_kV_i, am_nV_i, ↓reduceIte, eq_self, if_true, if_false, c_in, c_tn, pn_add, pn_mul, pn_subc, pn_addm, c_le_t, c_le_f, c_lt_t, c_lt_f, c_eq_f, c_eqm, bi_z, bi_1, bi_b, bi_T, bi_F, ite_not, up_eq, up_ne, or_self, or_true, true_or, or_false, false_or, and_true, true_and, and_self, not_true_eq_false, not_false_eq_true, Bool.false_eq_true]
    · rw [show d + 120 = d + 119 + 1 from rfl, eR]
      simp -implicitDefEqProofs (disch := (first | omega | assumption | exact am_isS_3 | exact am_isS_25 | exact am_isX_356 | exact am_isX_359)) only [ggR_parish_0, ggR_parish_2, ggR_parish_3, ggR_parish_4, ggR_parish_5, ggR_parish_6, ggR_parish_7, ggR_parish_8, ggR_parish_9, ggR_parish_10, ggR_parish_11, ggR_parish_12, ggR_parish_13, ggR_parish_16, ggR_parish_17, ggR_parish_18, ccR_parish_3_1, ccR_parish_9_1, ccR_parish_13_1, kd373, kk373, q2, rs_b, rR_throwsIf_t, m1_neg0, e14, am_kI_x, am_kV_x, am_kI_i, am_nI_i, am_kV_i, am_nV_i, ↓reduceIte, eq_self, if_true, if_false, c_in, c_tn, pn_add, pn_mul, pn_subc, pn_addm, c_le_t, c_le_f, c_lt_t, c_lt_f, c_eq_f, c_eqm, bi_z, bi_1, bi_b, bi_T, bi_F, ite_not, up_eq, up_ne, or_self, or_true, true_or, or_false, false_or, and_true, true_and, and_self, not_true_eq_false, not_false_eq_true, Bool.false_eq_true]
  have Q7 := qf hR' Q
  have w1 : hR'.2 374 1 = (Int32.ofNat w) := (Q7.2.2.1 1 (by omega)).trans ew
  have c36 : hC'.2 3 6 = (Int32.ofNat w) := by
    rw [P.2.1 3 (by omega) (by omega) (by omega) (by omega), F2 3 (by omega) (by omega), r8]; exact ew
  have W1 : (rs hR' p' b').2 374 1 = (Int32.ofNat w) := by rw [rs_o (by omega)]; exact w1
  have k0 : ((Int32.ofNat 0) : Int32) ≤ (Int32.ofNat k) := by rw [pn_le (by omega) (by omega)]; omega
  by_cases hw2 : w < 12
  · have lt : ((Int32.ofNat w) : Int32) < (Int32.ofNat 12) := by rw [pn_lt (by omega) (by omega)]; exact hw2
    have ne : ¬ ((Int32.ofNat w) : Int32) = (Int32.ofNat 12) := fun z => by have := (pn_eq (by omega) (by omega)).mp z; omega
    obtain ⟨R2, okt2, okc2, okk2, RL2⟩ := L2
    have hN2 := R2.1
    have c256 : hC'.2 25 6 = (Int32.ofNat w) := R2.2.2.2.2.2.2.2.1.trans w1
    have R3 := (R2.frame (h' := am_up (am_up hC' 0 14 (-1)) 1 1 (Int32.ofNat 0)) (fun p q1 q2 => by rw [up_o (by omega), up_o (by omega)])).cnt (Int32.ofNat (w + 1))
    obtain ⟨h4, c1, c2, c3, c4⟩ := copy_rel (o := 3) (o' := 25) am_isS_3 am_isS_25 (by omega) (d + 117) (am_up (am_up (am_up hC' 0 14 (-1)) 1 1 (Int32.ofNat 0)) 25 6 (Int32.ofNat (w + 1)))
    have R4 := c4 _ _ _ R3
    have v4 : h4.2 3 6 = (Int32.ofNat (w + 1)) := R4.2.2.2.2.2.2.2.1.trans (pu_eq rfl)
    have ef := fun d => xP_forget d h4
    have eW : (am_up (am_up (am_up (rs hR' p' b') 373 14 (-1)) 374 1 (Int32.ofNat (w + 1))) 373 7 (Int32.ofNat 0)).2 374 = pu (hR'.2 374) 1 (Int32.ofNat (w + 1)) := by rw [up_o (by omega), up_pu, up_o (by omega), rs_o (by omega)]
    have ec : ∀ p, p ≠ 0 → p ≠ 1 → (p < 3 ∨ 47 ≤ p) → p ≠ 69 → p ≠ 340 → p ≠ 341 → (p < 356 ∨ 359 ≤ p) → (am_up h4 69 2 (Int32.ofNat 0)).2 p = hC.2 p := fun p q1 q2 q3 q4 q5 q6 q7 => by
      rw [up_o q4, c3 p (by omega), up_o (by omega), up_o q2, up_o q1, P.2.1 p (by omega) (by omega) (by omega) (by omega), F2 p (by omega) (by omega)]
    refine ⟨am_up h4 69 2 (Int32.ofNat 0), am_up (am_up (am_up (rs hR' p' b') 373 14 (-1)) 374 1 (Int32.ofNat (w + 1))) 373 7 (Int32.ofNat 0), J.txt ⟨N2, G2, ?_, ?_, ?_, ?_, ?_⟩ ?_ ?_ ?_ ?_ ?_ ?_ (fun p hp => ec p (by omega) (by omega) (by omega) (by omega) (by omega) (by omega) (by omega)) ?_ (fun p hp => ?_), Q7.1, Or.inl ⟨(Int32.ofNat (w + 1)), ?_, ?_, ?_, ?_⟩⟩
    · rw [eW]; exact R4.frame (fun p q1 q2 => up_o (by omega))
    · rw [eW]
      obtain ⟨o1, o2, o3, o4, o5, o6, o7⟩ := okt2
      refine ⟨by rw [pu_ne (by omega)]; exact o1, by rw [pu_ne (by omega)]; exact o2, by rw [pu_eq rfl]; exact ⟨w + 1, by omega, rfl⟩, by rw [pu_ne (by omega)]; exact o4, by rw [pu_ne (by omega)]; exact o5, by rw [pu_ne (by omega)]; exact o6, fun t ht => ?_⟩
      rw [pu_ne (by omega), pu_ne (by omega), pu_ne (by omega), pu_ne (by omega)]
      exact o7 t ht
    · rw [eW]; exact okc2.of hN2 (fun j q1 q2 => pu_ne (by omega))
    · rw [eW]; exact okk2.of hN2 (fun j q1 q2 => pu_ne (by omega))
    · rw [eW]; exact RL2.of (fun p q1 q2 => by rw [up_o (by omega), c3 p (by omega), up_o (by omega), up_o (by omega), up_o (by omega)]) (pu_ne (by omega)) (fun j q1 q2 => pu_ne (by omega))
    · obtain ⟨m, s, hm, hs, p1, p2, p3, p4⟩ := jp
      refine ⟨0, s, by omega, hs, up_eq rfl rfl, ?_, up_eq rfl rfl, fun i hi => absurd hi (by omega)⟩
      rw [up_ne (by omega), c3 69 (by omega), up_o (by omega), up_o (by omega), up_o (by omega), P.2.1 69 (by omega) (by omega) (by omega) (by omega), F2 69 (by omega) (by omega)]
      exact p2
    · intro i hi
      have := jk.1 i hi
      rw [show (342 + 1) = 343 from rfl] at this ⊢
      rw [ec 343 (by omega) (by omega) (by omega) (by omega) (by omega) (by omega) (by omega)]
      exact this
    · rw [up_ne (by omega), c3 1 (by omega), up_ne (by omega)]; exact up_eq rfl rfl
    · rw [up_ne (by omega), up_ne (by omega), up_ne (by omega), rs_ne (by omega)]; exact Q7.2.2.2.2.1
    · rw [up_ne (by omega), c3 0 (by omega), up_ne (by omega), up_ne (by omega), up_eq rfl rfl, up_ne (by omega), up_ne (by omega), up_eq rfl rfl]
    · rw [up_ne (by omega), c3 0 (by omega), up_ne (by omega), up_ne (by omega), up_ne (by omega), P.2.1 0 (by omega) (by omega) (by omega) (by omega), F2 0 (by omega) (by omega)]
    · rw [up_ne (by omega), up_ne (by omega), up_ne (by omega), rs_ne (by omega)]; exact Q7.2.2.2.1 6 (by omega)
    · rw [up_o (by omega), up_o (by omega), up_o (by omega), rs_o (by omega)]; exact Q7.2.2.2.2.2.1 p (by omega)
    · show h4.1 = hC.1
      rw [c2]
      show hC'.1 = hC.1
      rw [P.1, f1, a2]
    · rw [up_ne (by omega), up_ne (by omega), up_ne (by omega), rs_ne (by omega)]; exact Q7.2.2.2.2.2.2
    · simp -implicitDefEqProofs (disch := (first | omega | assumption | exact am_isS_3 | exact am_isS_25 | exact am_isX_356 | exact am_isX_359)) only [uF_parish, ggF_parish_0, ggF_parish_1, ggF_parish_2, ggF_parish_3, ggF_parish_4, ccF_parish_0_2, ccF_parish_0_1, ccF_parish_4_2, ccF_parish_4_1, a1, q1, c36, lt, c256, c1, ef, v4, am_kI_x, am_kV_x, am_kI_i, am_nI_i, am_kV_i, am_nV_i, ↓reduceIte, eq_self, if_true, if_false, c_in, c_tn, pn_add, pn_mul, pn_subc, pn_addm, c_le_t, c_le_f, c_lt_t, c_lt_f, c_eq_f, c_eqm, bi_z, bi_1, bi_b, bi_T, bi_F, ite_not, up_eq, up_ne, or_self, or_true, true_or, or_false, false_or, and_true, true_and, and_self, not_true_eq_false, not_false_eq_true, Bool.false_eq_true]
    · rw [show d + 120 = d + 119 + 1 from rfl, eR]
      simp -implicitDefEqProofs (disch := (first | omega | assumption | exact am_isS_3 | exact am_isS_25 | exact am_isX_356 | exact am_isX_359)) only [ggR_parish_0, ggR_parish_2, ggR_parish_3, ggR_parish_4, ggR_parish_5, ggR_parish_6, ggR_parish_7, ggR_parish_8, ggR_parish_9, ggR_parish_10, ggR_parish_11, ggR_parish_12, ggR_parish_13, ggR_parish_16, ggR_parish_17, ggR_parish_18, ccR_parish_3_1, ccR_parish_9_1, ccR_parish_13_1, kd373, kk373, q2, k0, rR_throwsIf_f, W1, ne, am_kI_x, am_kV_x, am_kI_i, am_nI_i, am_kV_i, am_nV_i, ↓reduceIte, eq_self, if_true, if_false, c_in, c_tn, pn_add, pn_mul, pn_subc, pn_addm, c_le_t, c_le_f, c_lt_t, c_lt_f, c_eq_f, c_eqm, bi_z, bi_1, bi_b, bi_T, bi_F, ite_not, up_eq, up_ne, or_self, or_true, true_or, or_false, false_or, and_true, true_and, and_self, not_true_eq_false, not_false_eq_true, Bool.false_eq_true]
  · have w12 : w = 12 := by omega
    subst w12
    refine ⟨_, _, thr2 hC' hR' p' b' (-1) (Int32.ofNat 2) P Q, Q7.1, Or.inr ⟨5, 2, (Int32.ofNat 0), ?_, by decide, ?_, ?_, ?_⟩⟩
    · show hC'.1 + 1 = hC.1 + 1
      rw [P.1, f1, a2]
    · rw [cw_ne (by omega)]; exact up_eq rfl rfl
    · simp -implicitDefEqProofs (disch := (first | omega | assumption | exact am_isS_3 | exact am_isS_25 | exact am_isX_356 | exact am_isX_359)) only [uF_parish, ggF_parish_0, ggF_parish_1, ggF_parish_2, ggF_parish_3, ggF_parish_4, ccF_parish_0_2, ccF_parish_0_1, ccF_parish_4_2, ccF_parish_4_1, a1, q1, c36, am_kI_x, am_kV_x, am_kI_i, am_nI_i, am_kV_i, am_nV_i, ↓reduceIte, eq_self, if_true, if_false, c_in, c_tn, pn_add, pn_mul, pn_subc, pn_addm, c_le_t, c_le_f, c_lt_t, c_lt_f, c_eq_f, c_eqm, bi_z, bi_1, bi_b, bi_T, bi_F, ite_not, up_eq, up_ne, or_self, or_true, true_or, or_false, false_or, and_true, true_and, and_self, not_true_eq_false, not_false_eq_true, Bool.false_eq_true]
    · rw [show d + 120 = d + 119 + 1 from rfl, eR]
      simp -implicitDefEqProofs (disch := (first | omega | assumption | exact am_isS_3 | exact am_isS_25 | exact am_isX_356 | exact am_isX_359)) only [ggR_parish_0, ggR_parish_2, ggR_parish_3, ggR_parish_4, ggR_parish_5, ggR_parish_6, ggR_parish_7, ggR_parish_8, ggR_parish_9, ggR_parish_10, ggR_parish_11, ggR_parish_12, ggR_parish_13, ggR_parish_16, ggR_parish_17, ggR_parish_18, ccR_parish_3_1, ccR_parish_9_1, ccR_parish_13_1, kd373, kk373, q2, k0, rR_throwsIf_f, rR_throwsIf_t, W1, e14, am_kI_x, am_kV_x, am_kI_i, am_nI_i, am_kV_i, am_nV_i, ↓reduceIte, eq_self, if_true, if_false, c_in, c_tn, pn_add, pn_mul, pn_subc, pn_addm, c_le_t, c_le_f, c_lt_t, c_lt_f, c_eq_f, c_eqm, bi_z, bi_1, bi_b, bi_T, bi_F, ite_not, up_eq, up_ne, or_self, or_true, true_or, or_false, false_or, and_true, true_and, and_self, not_true_eq_false, not_false_eq_true, Bool.false_eq_true]
