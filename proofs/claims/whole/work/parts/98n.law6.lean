/-! a law's lines -/
def LinN (Ef : Nat → Nat) (hC hR : am_H) (t : Nat) : Prop := hR.2 374 (1265 + 4 * t + 2) = (Int32.ofNat (Ef t)) ∧ hR.2 374 (1265 + 4 * t + 3) = (Int32.ofNat (Ef (t + 1))) ∧ rg (hR.2 374 (1265 + 4 * t)) 3 ∧ rg (hR.2 374 (1265 + 4 * t + 1)) 101 ∧ hC.2 345 t = (Int32.ofNat (Ef (t + 1))) ∧ hC.2 343 t = bi (hR.2 374 (1265 + 4 * t) = (Int32.ofNat 2)) ∧ hC.2 344 t = (if hR.2 374 (1265 + 4 * t) = (Int32.ofNat 1) then - hR.2 374 (1265 + 4 * t + 1) else hR.2 374 (1265 + 4 * t + 1)) ∧ Ef t ≤ Ef (t + 1) ∧ (Ef t = Ef (t + 1) ∨ tyR (Kof hR) (Ef (t + 1) - Ef t) (Ef t) [] = some [true])
def LawF (h1 hR1 hC hR : am_H) : Prop := hC.1 = h1.1 ∧ (∀ p, (p < 342 ∨ 347 ≤ p) → p ≠ 359 → hC.2 p = h1.2 p) ∧ hR.1 = hR1.1 ∧ (∀ p, p ≠ 374 → p ≠ 373 → hR.2 p = hR1.2 p) ∧ (∀ i, i ≠ 10 → i ≠ 12 → i ≠ 13 → i ≠ 16 → hR.2 373 i = hR1.2 373 i) ∧ ∀ j, j < 1264 → hR.2 374 j = hR1.2 374 j
def LawB (h1 hR1 hC hR : am_H) : Prop := lb hC 342 ∧ LawF h1 hR1 hC hR
def LawI (B : Nat → Nat) (E n : Nat) (h1 hR1 : am_H) (i a : Nat) (hC hR : am_H) : Prop := TV hC 359 B E n ∧ hC.2 359 3 = (Int32.ofNat a) ∧ rtp hR B E ∧ hC.2 342 6 = (Int32.ofNat i) ∧ i ≤ 12 ∧ (∃ l Ef, l ≤ a ∧ hC.2 342 7 = (Int32.ofNat l) ∧ hR.2 373 16 = (Int32.ofNat l) ∧ (∀ j, j < l → Kof hR j < 18 ∧ cR (hC.2 346 j) (Kof hR j) (Nof hR j)) ∧ Ef 0 = 0 ∧ Ef i = l ∧ ∀ t, t < i → LinN Ef hC hR t ∧ Ef (t + 1) ≤ l) ∧ LawB h1 hR1 hC hR
def endL (h : am_H) (i l : Nat) (s x : Int32) : am_H := am_up (am_up (am_up (am_up h 343 i s) 344 i x) 345 i (Int32.ofNat l)) 342 6 (Int32.ofNat (i + 1))
theorem kd342 : am_kd 342 = 2 := rfl
theorem xL_endLine {h : am_H} {i l : Nat} (e6 : h.2 342 6 = (Int32.ofNat i)) (e7 : h.2 342 7 = (Int32.ofNat l)) (hi : i < 12) (s : Int32) (hs : s = (Int32.ofNat 0) ∨ s = (Int32.ofNat 1)) (x : Int32) (d : Nat) : am_cl (d + 1) qL_endLine [.ref 342, .int s, .int x] h = some (.inl (some ((Int32.ofNat 1))), endL h i l s x) := by
  unfold endL
  rcases hs with rfl | rfl
  · simp -implicitDefEqProofs (disch := (first | omega | assumption | exact am_isS_3 | exact am_isS_25 | exact am_isX_356 | exact am_isX_359)) only [uL_endLine, ggL_endLine_0, ggL_endLine_1, ggL_endLine_2, ggL_endLine_3, e6, e7, am_kI_x, am_kV_x, am_kI_i, am_nI_i, am_kV_i, am_nV_i, ↓reduceIte, eq_self, if_true, if_false, c_in, c_tn, pn_add, pn_mul, pn_subc, pn_addm, c_le_t, c_le_f, c_lt_t, c_lt_f, c_eq_f, c_eqm, bi_z, bi_1, bi_b, bi_T, bi_F, ite_not, up_eq, up_ne, or_self, or_true, true_or, or_false, false_or, and_true, true_and, and_self, not_true_eq_false, not_false_eq_true, Bool.false_eq_true]
  · simp -implicitDefEqProofs (disch := (first | omega | assumption | exact am_isS_3 | exact am_isS_25 | exact am_isX_356 | exact am_isX_359)) only [uL_endLine, ggL_endLine_0, ggL_endLine_1, ggL_endLine_2, ggL_endLine_3, e6, e7, am_kI_x, am_kV_x, am_kI_i, am_nI_i, am_kV_i, am_nV_i, ↓reduceIte, eq_self, if_true, if_false, c_in, c_tn, pn_add, pn_mul, pn_subc, pn_addm, c_le_t, c_le_f, c_lt_t, c_lt_f, c_eq_f, c_eqm, bi_z, bi_1, bi_b, bi_T, bi_F, ite_not, up_eq, up_ne, or_self, or_true, true_or, or_false, false_or, and_true, true_and, and_self, not_true_eq_false, not_false_eq_true, Bool.false_eq_true]
theorem xY_end {h : am_H} {i l w v : Nat} (e6 : h.2 342 6 = (Int32.ofNat i)) (e7 : h.2 342 7 = (Int32.ofNat l)) (hi : i < 12) (hw : w = 15 ∨ w = 2 ∨ w = 16) (d : Nat) : am_go (am_cl (d + 1)) qY_readLine 9 [.ref 359, .int (Int32.ofNat (1000 + w)), .int (Int32.ofNat v)] [] h = some (.inl (some ((Int32.ofNat 1))), endL h i l (bi (w = 16)) (if w = 2 then - (Int32.ofNat v) else (Int32.ofNat v))) := by
  rcases hw with rfl | rfl | rfl
  · have ee := fun x d => xL_endLine e6 e7 hi (Int32.ofNat 0) (Or.inl rfl) x d
    rw [bi_f (by omega), if_neg (by omega)]
    simp -implicitDefEqProofs (disch := (first | omega | assumption | exact am_isS_3 | exact am_isS_25 | exact am_isX_356 | exact am_isX_359)) only [ggY_readLine_0, ggY_readLine_1, ggY_readLine_2, ggY_readLine_3, ggY_readLine_4, ggY_readLine_5, ggY_readLine_6, ggY_readLine_7, ggY_readLine_8, ggY_readLine_9, ggY_readLine_10, ggY_readLine_11, ggY_readLine_12, ggY_readLine_13, ggY_readLine_14, ggY_readLine_15, ccY_readLine_0_2, ccY_readLine_0_1, ccY_readLine_1_1, ccY_readLine_2_1, ccY_readLine_4_1, ccY_readLine_6_2, ccY_readLine_6_1, ccY_readLine_7_1, ccY_readLine_15_1, ee, kd342, am_kI_x, am_kV_x, am_kI_i, am_nI_i, am_kV_i, am_nV_i, ↓reduceIte, eq_self, if_true, if_false, c_in, c_tn, pn_add, pn_mul, pn_subc, pn_addm, c_le_t, c_le_f, c_lt_t, c_lt_f, c_eq_f, c_eqm, bi_z, bi_1, bi_b, bi_T, bi_F, ite_not, up_eq, up_ne, or_self, or_true, true_or, or_false, false_or, and_true, true_and, and_self, not_true_eq_false, not_false_eq_true, Bool.false_eq_true]
  · have ee := fun x d => xL_endLine e6 e7 hi (Int32.ofNat 0) (Or.inl rfl) x d
    rw [bi_f (by omega), if_pos rfl]
    simp -implicitDefEqProofs (disch := (first | omega | assumption | exact am_isS_3 | exact am_isS_25 | exact am_isX_356 | exact am_isX_359)) only [ggY_readLine_0, ggY_readLine_1, ggY_readLine_2, ggY_readLine_3, ggY_readLine_4, ggY_readLine_5, ggY_readLine_6, ggY_readLine_7, ggY_readLine_8, ggY_readLine_9, ggY_readLine_10, ggY_readLine_11, ggY_readLine_12, ggY_readLine_13, ggY_readLine_14, ggY_readLine_15, ccY_readLine_0_2, ccY_readLine_0_1, ccY_readLine_1_1, ccY_readLine_2_1, ccY_readLine_4_1, ccY_readLine_6_2, ccY_readLine_6_1, ccY_readLine_7_1, ccY_readLine_15_1, ee, kd342, am_kI_x, am_kV_x, am_kI_i, am_nI_i, am_kV_i, am_nV_i, ↓reduceIte, eq_self, if_true, if_false, c_in, c_tn, pn_add, pn_mul, pn_subc, pn_addm, c_le_t, c_le_f, c_lt_t, c_lt_f, c_eq_f, c_eqm, bi_z, bi_1, bi_b, bi_T, bi_F, ite_not, up_eq, up_ne, or_self, or_true, true_or, or_false, false_or, and_true, true_and, and_self, not_true_eq_false, not_false_eq_true, Bool.false_eq_true]
  · have ee := fun x d => xL_endLine e6 e7 hi (Int32.ofNat 1) (Or.inr rfl) x d
    rw [bi_t rfl, if_neg (by omega)]
    simp -implicitDefEqProofs (disch := (first | omega | assumption | exact am_isS_3 | exact am_isS_25 | exact am_isX_356 | exact am_isX_359)) only [ggY_readLine_0, ggY_readLine_1, ggY_readLine_2, ggY_readLine_3, ggY_readLine_4, ggY_readLine_5, ggY_readLine_6, ggY_readLine_7, ggY_readLine_8, ggY_readLine_9, ggY_readLine_10, ggY_readLine_11, ggY_readLine_12, ggY_readLine_13, ggY_readLine_14, ggY_readLine_15, ccY_readLine_0_2, ccY_readLine_0_1, ccY_readLine_1_1, ccY_readLine_2_1, ccY_readLine_4_1, ccY_readLine_6_2, ccY_readLine_6_1, ccY_readLine_7_1, ccY_readLine_15_1, ee, kd342, am_kI_x, am_kV_x, am_kI_i, am_nI_i, am_kV_i, am_nV_i, ↓reduceIte, eq_self, if_true, if_false, c_in, c_tn, pn_add, pn_mul, pn_subc, pn_addm, c_le_t, c_le_f, c_lt_t, c_lt_f, c_eq_f, c_eqm, bi_z, bi_1, bi_b, bi_T, bi_F, ite_not, up_eq, up_ne, or_self, or_true, true_or, or_false, false_or, and_true, true_and, and_self, not_true_eq_false, not_false_eq_true, Bool.false_eq_true]
/-- a line done: what both have then -/
theorem LawI.line {B : Nat → Nat} {E n i a a' l l' w k v : Nat} {h1 hR1 hC hR hC2 hR2 : am_H} {Ef : Nat → Nat} (hi : i < 12) (hw : w = 15 ∧ k = 0 ∨ w = 2 ∧ k = 1 ∨ w = 16 ∧ k = 2) (hv : v ≤ 100) (T : TV hC2 359 B E n) (ea : hC2.2 359 3 = (Int32.ofNat a')) (TR : rtp hR2 B E) (la : l' ≤ a') (e7 : hC2.2 342 7 = (Int32.ofNat l')) (e16 : hR2.2 373 16 = (Int32.ofNat l')) (hl : l ≤ l') (cd : ∀ j, j < l' → Kof hR2 j < 18 ∧ cR (hC2.2 346 j) (Kof hR2 j) (Nof hR2 j)) (ty : l = l' ∨ tyR (Kof hR2) (l' - l) l [] = some [true]) (E0 : Ef 0 = 0) (Ei : Ef i = l) (ol : ∀ t, t < i → LinN Ef hC hR t ∧ Ef (t + 1) ≤ l) (w0 : hR2.2 374 (1265 + 4 * i) = (Int32.ofNat k)) (w1 : hR2.2 374 (1265 + 4 * i + 1) = (Int32.ofNat v)) (w2 : hR2.2 374 (1265 + 4 * i + 2) = (Int32.ofNat l)) (fr : ∀ j, j < 1313 + 2 * l → (j < 1265 + 4 * i ∨ 1265 + 4 * i + 4 ≤ j) → hR2.2 374 j = hR.2 374 j) (fc : ∀ p t, p = 343 ∨ p = 344 ∨ p = 345 → hC2.2 p t = hC.2 p t) (b : LawB h1 hR1 hC2 hR2) : LawI B E n h1 hR1 (i + 1) a' (endL hC2 i l' (bi (w = 16)) (if w = 2 then - (Int32.ofNat v) else (Int32.ofNat v))) (am_up hR2 374 (1265 + 4 * i + 3) (Int32.ofNat l')) := by
  have kj : ∀ j, Kof (am_up hR2 374 (1265 + 4 * i + 3) (Int32.ofNat l')) j = Kof hR2 j ∧ Nof (am_up hR2 374 (1265 + 4 * i + 3) (Int32.ofNat l')) j = Nof hR2 j := fun j => by
    unfold Kof Nof
    rw [up_ne (by omega), up_ne (by omega)]
    exact ⟨rfl, rfl⟩
  have ko : ∀ j, j < l → Kof hR2 j = Kof hR j := fun j hj => by
    unfold Kof
    rw [fr _ (by omega) (by omega)]
  obtain ⟨b1, b2, b3, b4, b5, b6, b7⟩ := b
  have eo : ∀ p j, (p < 343 ∨ 346 ≤ p) → (p ≠ 342 ∨ j ≠ 6) → (endL hC2 i l' (bi (w = 16)) (if w = 2 then - (Int32.ofNat v) else (Int32.ofNat v))).2 p j = hC2.2 p j := fun p j q1 q2 => by
    unfold endL
    rw [up_ne (by omega), up_ne (by omega), up_ne (by omega), up_ne (by omega)]
  have eoo : ∀ p j, j ≠ i → p ≠ 342 → (endL hC2 i l' (bi (w = 16)) (if w = 2 then - (Int32.ofNat v) else (Int32.ofNat v))).2 p j = hC2.2 p j := fun p j q1 q2 => by
    unfold endL
    rw [up_ne (by omega), up_ne (by omega), up_ne (by omega), up_ne (by omega)]
  refine ⟨T.of (eo _ _ (by omega) (by omega)) (funext fun j => eo _ _ (by omega) (by omega)) (funext fun j => eo _ _ (by omega) (by omega)), (eo _ _ (by omega) (by omega)).trans ea, TR.up (by omega), by unfold endL; exact up_eq rfl rfl, by omega, ⟨l', fun t => if t ≤ i then Ef t else l', la, (eo _ _ (by omega) (by omega)).trans e7, by rw [up_ne (by omega)]; exact e16, fun j hj => ?_, ?_, ?_, fun t ht => ?_⟩, fun t ht => ?_, b2, fun p q1 q2 => ?_, b4, fun p q1 q2 => by rw [up_o q1]; exact b5 p q1 q2, fun j q1 q2 q3 q4 => by rw [up_ne (by omega)]; exact b6 j q1 q2 q3 q4, fun j hj => by rw [up_ne (by omega)]; exact b7 j hj⟩
  · rw [(kj j).1, (kj j).2, eo _ _ (by omega) (by omega)]
    exact cd j hj
  · show (if 0 ≤ i then Ef 0 else l') = 0
    rw [if_pos (by omega)]; exact E0
  · show (if i + 1 ≤ i then Ef (i + 1) else l') = l'
    rw [if_neg (by omega)]
  · by_cases z : t = i
    · subst z
      unfold LinN
      simp only [if_pos (Nat.le_refl t), if_neg (show ¬ t + 1 ≤ t by omega), Ei]
      refine ⟨⟨by rw [up_ne (by omega)]; exact w2, up_eq rfl rfl, ?_, ?_, by unfold endL; rw [up_ne (by omega)]; exact up_eq rfl rfl, ?_, ?_, hl, ?_⟩, Nat.le_refl _⟩
      · rw [up_ne (by omega), w0]; exact ⟨k, by omega, rfl⟩
      · rw [up_ne (by omega), w1]; exact ⟨v, by omega, rfl⟩
      · rw [up_ne (by omega), w0]
        unfold endL
        rw [up_ne (by omega), up_ne (by omega), up_ne (by omega), up_eq rfl rfl]
        apply bi_congr
        rw [pn_eq (by omega) (by omega)]
        omega
      · rw [up_ne (by omega), up_ne (by omega), w0, w1]
        unfold endL
        rw [up_ne (by omega), up_ne (by omega), up_eq rfl rfl]
        rcases hw with ⟨rfl, rfl⟩ | ⟨rfl, rfl⟩ | ⟨rfl, rfl⟩
        · rw [if_neg (by omega), if_neg (by decide)]
        · rw [if_pos rfl, if_pos rfl]
        · rw [if_neg (by omega), if_neg (by decide)]
      · rcases ty with q | q
        · exact Or.inl q
        · right
          rw [tyR_congr (l' - l) l [] (fun j h1 h2 => (kj j).1)]
          exact q
    · have ht' : t < i := by omega
      obtain ⟨⟨o1, o2, o3, o4, o5, o6, o7, o8, o9⟩, o10⟩ := ol t ht'
      have fr' : ∀ s, s < 4 → (am_up hR2 374 (1265 + 4 * i + 3) (Int32.ofNat l')).2 374 (1265 + 4 * t + s) = hR.2 374 (1265 + 4 * t + s) := fun s hs => by
        rw [up_ne (by omega), fr _ (by omega) (by omega)]
      unfold LinN
      simp only [if_pos (show t ≤ i by omega), if_pos (show t + 1 ≤ i by omega)]
      have f0 : (am_up hR2 374 (1265 + 4 * i + 3) (Int32.ofNat l')).2 374 (1265 + 4 * t) = hR.2 374 (1265 + 4 * t) := fr' 0 (by omega)
      rw [f0, fr' 1 (by omega), fr' 2 (by omega), fr' 3 (by omega), eoo _ _ (by omega) (by omega), eoo _ _ (by omega) (by omega), eoo _ _ (by omega) (by omega), fc _ _ (by omega), fc _ _ (by omega), fc _ _ (by omega)]
      refine ⟨⟨o1, o2, o3, o4, o5, o6, o7, o8, ?_⟩, by omega⟩
      rcases o9 with q | q
      · exact Or.inl q
      · right
        rw [tyR_congr (Ef (t + 1) - Ef t) (Ef t) [] (fun j h1 h2 => (kj j).1.trans (ko j (by omega)))]
        exact q
  · show (endL hC2 i l' (bi (w = 16)) (if w = 2 then - (Int32.ofNat v) else (Int32.ofNat v))).2 343 t = (Int32.ofNat 0) ∨ (endL hC2 i l' (bi (w = 16)) (if w = 2 then - (Int32.ofNat v) else (Int32.ofNat v))).2 343 t = (Int32.ofNat 1)
    by_cases z : t = i
    · subst z
      unfold endL
      rw [up_ne (by omega), up_ne (by omega), up_ne (by omega), up_eq rfl rfl]
      exact bi_01
    · rw [eoo _ _ z (by omega)]
      exact b1 t ht
  · rw [← b3 p q1 q2]
    unfold endL
    rw [up_o (by omega), up_o (by omega), up_o (by omega), up_o (by omega)]
