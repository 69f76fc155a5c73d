/-! the tape: feed, end -/
theorem J2.tape {hC hR hC' hR' : am_H} (J : J2 hC hR) (T : jT hC' hR') (f : ∀ p, p ≠ 1 → p ≠ 2 → hC'.2 p = hC.2 p) (g : ∀ p, p ≠ 373 → p ≠ 379 → p ≠ 380 → hR'.2 p = hR.2 p) (g2 : ∀ i, i = 6 ∨ i = 7 ∨ i = 14 → hR'.2 373 i = hR.2 373 i) : J2 hC' hR' := by
  obtain ⟨⟨N, G, L⟩, a, b, c, e, k⟩ := J
  have g374 := g 374 (by omega) (by omega) (by omega)
  refine ⟨⟨N, G, L.of (fun p h1 h2 => f p (by omega) (by omega)) (fun p h1 h2 => f p (by omega) (by omega)) (fun j _ => by rw [g374])⟩, T, ?_, c.of (by rw [f 0 (by omega) (by omega)]) (fun p h1 h2 => f p (by omega) (by omega)) (fun p h1 h2 => f p (by omega) (by omega)) (g2 6 (by omega)) (g 375 (by omega) (by omega) (by omega)), e.of (f 69 (by omega) (by omega)) (fun p h1 h2 => f p (by omega) (by omega)) (g2 7 (by omega)) (g 378 (by omega) (by omega) (by omega)) (by rw [g374]), k.of (by rw [f 362 (by omega) (by omega)]) (f 363 (by omega) (by omega)) (f 343 (by omega) (by omega))⟩
  rw [f 0 (by omega) (by omega), g2 14 (by omega)]
  exact b
theorem byte_hi : ∀ i : Fin 32, 8 ≤ i.val → (BitVec.ofNat 32 255).getLsbD i.val = false := by decide
theorem byte_lo : ∀ i : Fin 8, (BitVec.ofNat 32 255).getLsbD i.val = true := by decide
theorem byte_rg (x : Int32) : rg (x &&& (Int32.ofNat 255)) 256 := by
  refine ⟨(x &&& (Int32.ofNat 255)).toBitVec.toNat, ?_, (of_toNat _).symm⟩
  have : (x &&& (Int32.ofNat 255)).toBitVec = x.toBitVec &&& BitVec.ofNat 32 255 := rfl
  rw [this, BitVec.toNat_and]
  have := Nat.and_le_right (n := x.toBitVec.toNat) (m := (BitVec.ofNat 32 255).toNat)
  have h2 : (BitVec.ofNat 32 255).toNat = 255 := rfl
  omega
theorem byte_c {x y z : Int32} {s : Nat} (h1 : y.toBitVec = (x.toBitVec >>> s) &&& BitVec.ofNat 32 255) (h2 : z.toBitVec = x.toBitVec.sshiftRight s) (hs : s ≤ 24) : z.toInt8 = y.toInt8 := by
  apply Int8.toBitVec_inj.mp
  rw [Int32.toBitVec_toInt8, Int32.toBitVec_toInt8, h1, h2]
  apply BitVec.eq_of_getLsbD_eq
  intro i hi
  rw [BitVec.getLsbD_signExtend, BitVec.getLsbD_signExtend, if_pos (by omega), if_pos (by omega), BitVec.getLsbD_and, BitVec.getLsbD_ushiftRight, BitVec.getLsbD_sshiftRight, byte_lo ⟨i, hi⟩, decide_eq_false (by omega : ¬ 32 ≤ i), if_pos (by omega), Bool.and_true]
  rfl
theorem byte_eq (x : Int32) {s : Nat} (hs : s = 24 ∨ s = 16 ∨ s = 8 ∨ s = 0) : (x >>> ((Int32.ofNat s) &&& (Int32.ofNat 31))).toInt8.toInt32.toInt8.toInt32 = (am_ush x (Int32.ofNat s) &&& (Int32.ofNat 255)).toInt8.toInt32 := by
  rw [Int8.toInt8_toInt32]
  congr 1
  rcases hs with rfl | rfl | rfl | rfl
  · exact byte_c (x := x) (s := 24) rfl rfl (by omega)
  · exact byte_c (x := x) (s := 16) rfl rfl (by omega)
  · exact byte_c (x := x) (s := 8) rfl rfl (by omega)
  · exact byte_c (x := x) (s := 0) rfl rfl (by omega)
theorem s_24 : ((Int32.ofNat 24) : Int32) + (-8 : Int32) = (Int32.ofNat 16) := by decide
theorem s_16 : ((Int32.ofNat 16) : Int32) + (-8 : Int32) = (Int32.ofNat 8) := by decide
theorem s_8 : ((Int32.ofNat 8) : Int32) + (-8 : Int32) = (Int32.ofNat 0) := by decide
theorem s_0 : ((Int32.ofNat 0) : Int32) + (-8 : Int32) = (-8 : Int32) := by decide
theorem s_m : ((-8 : Int32) < (Int32.ofNat 0)) = True := by decide
def vb (x : Int32) (j : Nat) : Int32 := am_ush x (Int32.ofNat (24 - 8 * j)) &&& (Int32.ofNat 255)
theorem xT_put {h : am_H} {l : Nat} (hl : l + 4 ≤ 400) (e : h.2 1 1 = (Int32.ofNat l)) (x : Int32) (d : Nat) : ∃ h', am_cl (d + 1) qT_put [.ref 1, .int x] h = some (.inl none, h') ∧ h'.1 = h.1 ∧ h'.2 1 1 = (Int32.ofNat (l + 4)) ∧ (∀ j, j < 4 → h'.2 2 (l + j) = vb x j) ∧ ∀ p i, (p ≠ 2 ∨ i < l ∨ l + 4 ≤ i) → (p ≠ 1 ∨ i ≠ 1) → h'.2 p i = h.2 p i := by
  refine ⟨?_, ?_, ?_, ?_, ?_, ?_⟩
  rotate_left
  · simp -implicitDefEqProofs (disch := (first | omega | assumption | exact am_isS_3 | exact am_isS_25 | exact am_isX_356 | exact am_isX_359)) only [uT_put, ggT_put_1, ggT_put_0, ggT_put_2, ggT_put_3, ggT_put_4, e, s_24, s_16, s_8, s_0, s_m, am_kI_x, am_kV_x, am_kI_i, am_nI_i, am_kV_i, am_nV_i, ↓reduceIte, eq_self, if_true, if_false, c_in, c_tn, pn_add, pn_mul, pn_subc, pn_addm, c_le_t, c_le_f, c_lt_t, c_lt_f, c_eq_f, c_eqm, bi_z, bi_1, bi_b, bi_T, bi_F, ite_not, up_eq, up_ne, or_self, or_true, true_or, or_false, false_or, and_true, true_and, and_self, not_true_eq_false, not_false_eq_true, Bool.false_eq_true]
    rfl
  · rfl
  · rw [up_eq rfl rfl, show l + 1 + 1 + 1 + 1 = l + 4 by omega]
  · intro j hj
    rcases (show j = 0 ∨ j = 1 ∨ j = 2 ∨ j = 3 by omega) with rfl | rfl | rfl | rfl
    all_goals (simp (disch := omega) only [up_ne, up_eq]; rfl)
  · intro p i h1 h2
    simp (disch := omega) only [up_ne]
theorem xR_feed_l {a : Nat → Int32} {l : Nat} (hl : l + 20 ≤ 400) (x1 x2 x3 x4 x5 : Int32) (d : Nat) : ∀ (k j : Nat) (h : am_H), j + k = 20 → h.2 373 9 = (Int32.ofNat l) → (∀ m, m < 5 → h.2 380 m = a m) → ∃ h', am_go (am_cl d) qR_feed 3 [.ref 373, .int x1, .int x2, .int x3, .int x4, .int x5, .int (Int32.ofNat j)] [] h = some (.inl (some ((Int32.ofNat (l + 20)))), am_up h' 373 9 (Int32.ofNat (l + 20))) ∧ h'.1 = h.1 ∧ (∀ i, j ≤ i → i < 20 → h'.2 379 (l + i) = (vb (a (i / 4)) (i % 4)).toInt8.toInt32) ∧ ∀ p i, (p ≠ 379 ∨ i < l + j ∨ l + 20 ≤ i) → h'.2 p i = h.2 p i := by
  intro k
  induction k with
  | zero =>
    intro j h hj e ea
    have hj : j = 20 := by omega
    subst hj
    refine ⟨h, ?_, rfl, fun i h1 h2 => by omega, fun p i _ => rfl⟩
    rw [ggR_feed_3]
    simp -implicitDefEqProofs (disch := (first | omega | assumption | exact am_isS_3 | exact am_isS_25 | exact am_isX_356 | exact am_isX_359)) only [ggR_feed_0, ggR_feed_1, ggR_feed_2, ggR_feed_4, ggR_feed_5, e, am_kI_x, am_kV_x, am_kI_i, am_nI_i, am_kV_i, am_nV_i, ↓reduceIte, eq_self, if_true, if_false, c_in, c_tn, pn_add, pn_mul, pn_subc, pn_addm, c_le_t, c_le_f, c_lt_t, c_lt_f, c_eq_f, c_eqm, bi_z, bi_1, bi_b, bi_T, bi_F, ite_not, up_eq, up_ne, or_self, or_true, true_or, or_false, false_or, and_true, true_and, and_self, not_true_eq_false, not_false_eq_true, Bool.false_eq_true]
  | succ k ih =>
    intro j h hj e ea
    have h4 : j / 4 < 5 := by omega
    have h8 : 8 * (j % 4) ≤ 24 := by omega
    have eb := byte_eq (a (j / 4)) (s := 24 - 8 * (j % 4)) (by omega)
    obtain ⟨h', e1, e2, e3, e4⟩ := ih (j + 1) (am_up h 379 (l + j) (vb (a (j / 4)) (j % 4)).toInt8.toInt32) (by omega) (by rw [up_ne (by omega)]; exact e) (fun m hm => by rw [up_ne (by omega)]; exact ea m hm)
    refine ⟨h', ?_, e2, ?_, ?_⟩
    · rw [ggR_feed_3]
      have h44 : j - j / 4 * 4 = j % 4 := by omega
      simp -implicitDefEqProofs (disch := (first | omega | assumption | exact am_isS_3 | exact am_isS_25 | exact am_isX_356 | exact am_isX_359)) only [ggR_feed_0, ggR_feed_1, ggR_feed_2, ggR_feed_4, ggR_feed_5, e, pn_div, h44, ea, eb, am_kI_x, am_kV_x, am_kI_i, am_nI_i, am_kV_i, am_nV_i, ↓reduceIte, eq_self, if_true, if_false, c_in, c_tn, pn_add, pn_mul, pn_subc, pn_addm, c_le_t, c_le_f, c_lt_t, c_lt_f, c_eq_f, c_eqm, bi_z, bi_1, bi_b, bi_T, bi_F, ite_not, up_eq, up_ne, or_self, or_true, true_or, or_false, false_or, and_true, true_and, and_self, not_true_eq_false, not_false_eq_true, Bool.false_eq_true]
      exact e1
    · intro i h1 h2
      by_cases hi : i = j
      · rw [hi, e4 _ _ (by omega), up_eq rfl rfl]
      · exact e3 i (by omega) h2
    · intro p i hp
      rw [e4 p i (by omega), up_ne (by omega)]
theorem T_feed (x1 x2 x3 x4 x5 : Int32) : Ans qF_feed [.ref 0, .int x1, .int x2, .int x3, .int x4, .int x5] qR_feed [.ref 373, .int x1, .int x2, .int x3, .int x4, .int x5] := by
  intro d hC hR J
  have J0 := J.thr (Int32.ofNat 0)
  obtain ⟨-, ⟨l, hl, e1, e2, eb⟩, -⟩ := id J
  by_cases h20 : l + 20 ≤ 400
  · obtain ⟨h1, a1, b1, c1, u1, f1⟩ := xT_put (h := hC) (l := l) (by omega) e1 x1 (d + 118)
    obtain ⟨h2, a2, b2, c2, u2, f2⟩ := xT_put (h := h1) (l := l + 4) (by omega) c1 x2 (d + 118)
    obtain ⟨h3, a3, b3, c3, u3, f3⟩ := xT_put (h := h2) (l := l + 4 + 4) (by omega) c2 x3 (d + 118)
    obtain ⟨h4, a4, b4, c4, u4, f4⟩ := xT_put (h := h3) (l := l + 4 + 4 + 4) (by omega) c3 x4 (d + 118)
    obtain ⟨h5, a5, b5, c5, u5, f5⟩ := xT_put (h := h4) (l := l + 4 + 4 + 4 + 4) (by omega) c4 x5 (d + 118)
    obtain ⟨r, g1, g2, g3, g4⟩ := xR_feed_l (a := fun m => if m = 0 then x1 else if m = 1 then x2 else if m = 2 then x3 else if m = 3 then x4 else x5) (l := l) h20 x1 x2 x3 x4 x5 (d + 119) 20 0 (am_up (am_up (am_up (am_up (am_up (am_up hR 373 0 (Int32.ofNat 0)) 380 0 x1) 380 1 x2) 380 2 x3) 380 3 x4) 380 4 x5) (by omega) (by simp (disch := omega) only [up_ne]; exact e2) (fun m hm => by
      rcases (show m = 0 ∨ m = 1 ∨ m = 2 ∨ m = 3 ∨ m = 4 by omega) with rfl | rfl | rfl | rfl | rfl
      all_goals (simp (disch := omega) only [up_ne, up_eq]; rfl))
    have k5 : ∀ p i, (p ≠ 2 ∨ i < l ∨ l + 20 ≤ i) → (p ≠ 1 ∨ i ≠ 1) → h5.2 p i = hC.2 p i := fun p i q1 q2 => by
      rw [f5 p i (by omega) q2, f4 p i (by omega) q2, f3 p i (by omega) q2, f2 p i (by omega) q2, f1 p i (by omega) q2]
    have kb : ∀ i, i < 20 → h5.2 2 (l + i) = vb ((fun m => if m = 0 then x1 else if m = 1 then x2 else if m = 2 then x3 else if m = 3 then x4 else x5) (i / 4)) (i % 4) := fun i hi => by
      rcases (show i / 4 = 0 ∨ i / 4 = 1 ∨ i / 4 = 2 ∨ i / 4 = 3 ∨ i / 4 = 4 by omega) with q | q | q | q | q
      · rw [q, f5 _ _ (by omega) (by omega), f4 _ _ (by omega) (by omega), f3 _ _ (by omega) (by omega), f2 _ _ (by omega) (by omega), show l + i = l + i % 4 by omega]
        exact u1 _ (by omega)
      · rw [q, f5 _ _ (by omega) (by omega), f4 _ _ (by omega) (by omega), f3 _ _ (by omega) (by omega), show l + i = l + 4 + i % 4 by omega]
        exact u2 _ (by omega)
      · rw [q, f5 _ _ (by omega) (by omega), f4 _ _ (by omega) (by omega), show l + i = l + 4 + 4 + i % 4 by omega]
        exact u3 _ (by omega)
      · rw [q, f5 _ _ (by omega) (by omega), show l + i = l + 4 + 4 + 4 + i % 4 by omega]
        exact u4 _ (by omega)
      · rw [q, show l + i = l + 4 + 4 + 4 + 4 + i % 4 by omega]
        exact u5 _ (by omega)
    have kr : ∀ p i, (p ≠ 379 ∨ i < l ∨ l + 20 ≤ i) → p ≠ 380 → (p ≠ 373 ∨ i ≠ 0) → r.2 p i = hR.2 p i := fun p i q1 q2 q3 => by
      rw [g4 p i (by omega)]
      simp (disch := omega) only [up_ne]
    have r0 : (am_up r 373 9 (Int32.ofNat (l + 20))).2 373 0 = (Int32.ofNat 0) := by
      rw [up_ne (by omega), g4 373 0 (by omega)]
      simp (disch := omega) only [up_ne, up_eq]
    refine ⟨(Int32.ofNat (l + 20)), h5, am_up r 373 9 (Int32.ofNat (l + 20)), J.tape ⟨l + 20, h20, c5, up_eq rfl rfl, fun i hi => ?_⟩ (fun p q1 q2 => ?_) (fun p q1 q2 q3 => ?_) (fun i hi => ?_), b5.trans (b4.trans (b3.trans (b2.trans b1))), g2, r0, ?_, ?_⟩
    · by_cases hq : l ≤ i ∧ i < l + 20
      · have ki := kb (i - l) (by omega)
        have ri := g3 (i - l) (by omega) (by omega)
        rw [show l + (i - l) = i by omega] at ki ri
        obtain ⟨b, hb, e⟩ : rg (vb ((fun m => if m = 0 then x1 else if m = 1 then x2 else if m = 2 then x3 else if m = 3 then x4 else x5) ((i - l) / 4)) ((i - l) % 4)) 256 := byte_rg _
        exact ⟨b, hb, ki.trans e, by rw [up_ne (by omega), ri, e]⟩
      · obtain ⟨b, hb, e3, e4⟩ := eb i hi
        exact ⟨b, hb, by rw [k5 2 i (by omega) (by omega)]; exact e3, by rw [up_ne (by omega), kr 379 i (by omega) (by omega) (by omega)]; exact e4⟩
    · funext i; exact k5 p i (by omega) (by omega)
    · funext i
      rw [up_ne (by omega)]
      exact kr p i (by omega) (by omega) (by omega)
    · rw [up_ne (by omega)]
      exact kr 373 i (by omega) (by omega) (by omega)
    · simp -implicitDefEqProofs (disch := (first | omega | assumption | exact am_isS_3 | exact am_isS_25 | exact am_isX_356 | exact am_isX_359)) only [uF_feed, ggF_feed_0, ggF_feed_1, ggF_feed_2, ccF_feed_2_5, ccF_feed_2_4, ccF_feed_2_3, ccF_feed_2_2, ccF_feed_2_1, e1, a1, a2, a3, a4, a5, c5, am_kI_x, am_kV_x, am_kI_i, am_nI_i, am_kV_i, am_nV_i, ↓reduceIte, eq_self, if_true, if_false, c_in, c_tn, pn_add, pn_mul, pn_subc, pn_addm, c_le_t, c_le_f, c_lt_t, c_lt_f, c_eq_f, c_eqm, bi_z, bi_1, bi_b, bi_T, bi_F, ite_not, up_eq, up_ne, or_self, or_true, true_or, or_false, false_or, and_true, true_and, and_self, not_true_eq_false, not_false_eq_true, Bool.false_eq_true]
    · simp -implicitDefEqProofs (disch := (first | omega | assumption | exact am_isS_3 | exact am_isS_25 | exact am_isX_356 | exact am_isX_359)) only [uR_feed, ggR_feed_0, ggR_feed_1, ggR_feed_2, ggR_feed_4, ggR_feed_5, e2, am_kI_x, am_kV_x, am_kI_i, am_nI_i, am_kV_i, am_nV_i, ↓reduceIte, eq_self, if_true, if_false, c_in, c_tn, pn_add, pn_mul, pn_subc, pn_addm, c_le_t, c_le_f, c_lt_t, c_lt_f, c_eq_f, c_eqm, bi_z, bi_1, bi_b, bi_T, bi_F, ite_not, up_eq, up_ne, or_self, or_true, true_or, or_false, false_or, and_true, true_and, and_self, not_true_eq_false, not_false_eq_true, Bool.false_eq_true]
      exact g1
  · refine ⟨-1, hC, am_up hR 373 0 (Int32.ofNat 0), J0, rfl, rfl, up_eq rfl rfl, ?_, ?_⟩
    · simp -implicitDefEqProofs (disch := (first | omega | assumption | exact am_isS_3 | exact am_isS_25 | exact am_isX_356 | exact am_isX_359)) only [uF_feed, ggF_feed_0, ggF_feed_1, ggF_feed_2, ccF_feed_2_5, ccF_feed_2_4, ccF_feed_2_3, ccF_feed_2_2, ccF_feed_2_1, e1, am_kI_x, am_kV_x, am_kI_i, am_nI_i, am_kV_i, am_nV_i, ↓reduceIte, eq_self, if_true, if_false, c_in, c_tn, pn_add, pn_mul, pn_subc, pn_addm, c_le_t, c_le_f, c_lt_t, c_lt_f, c_eq_f, c_eqm, bi_z, bi_1, bi_b, bi_T, bi_F, ite_not, up_eq, up_ne, or_self, or_true, true_or, or_false, false_or, and_true, true_and, and_self, not_true_eq_false, not_false_eq_true, Bool.false_eq_true]
    · simp -implicitDefEqProofs (disch := (first | omega | assumption | exact am_isS_3 | exact am_isS_25 | exact am_isX_356 | exact am_isX_359)) only [uR_feed, ggR_feed_0, ggR_feed_1, ggR_feed_2, ggR_feed_4, ggR_feed_5, e2, am_kI_x, am_kV_x, am_kI_i, am_nI_i, am_kV_i, am_nV_i, ↓reduceIte, eq_self, if_true, if_false, c_in, c_tn, pn_add, pn_mul, pn_subc, pn_addm, c_le_t, c_le_f, c_lt_t, c_lt_f, c_eq_f, c_eqm, bi_z, bi_1, bi_b, bi_T, bi_F, ite_not, up_eq, up_ne, or_self, or_true, true_or, or_false, false_or, and_true, true_and, and_self, not_true_eq_false, not_false_eq_true, Bool.false_eq_true]
theorem T_end (x : Int32) : Ans qF_end [.ref 0, .int x] qR_end [.ref 373, .int x] := by
  intro d hC hR J
  have J0 := J.thr (Int32.ofNat 0)
  obtain ⟨-, ⟨l, hl, e1, e2, eb⟩, -⟩ := id J
  rcases rng_cases l (by omega) x with ⟨n, hn, rfl⟩ | ⟨b1, b2⟩
  · refine ⟨(Int32.ofNat 1), am_up hC 1 1 (Int32.ofNat n), am_up (am_up hR 373 0 (Int32.ofNat 0)) 373 9 (Int32.ofNat n), J.tape ⟨n, by omega, up_eq rfl rfl, up_eq rfl rfl, fun i hi => ?_⟩ (fun p q1 q2 => up_o q1) (fun p q1 q2 q3 => by rw [up_o q1, up_o q1]) (fun i hi => by rw [up_ne (by omega), up_ne (by omega)]), rfl, rfl, by rw [up_ne (by omega)]; exact up_eq rfl rfl, ?_, ?_⟩
    · rw [up_ne (by omega), up_ne (by omega), up_ne (by omega)]; exact eb i hi
    · simp -implicitDefEqProofs (disch := (first | omega | assumption | exact am_isS_3 | exact am_isS_25 | exact am_isX_356 | exact am_isX_359)) only [uF_end, ggF_end_0, ggF_end_1, ggF_end_2, ggF_end_3, e1, am_kI_x, am_kV_x, am_kI_i, am_nI_i, am_kV_i, am_nV_i, ↓reduceIte, eq_self, if_true, if_false, c_in, c_tn, pn_add, pn_mul, pn_subc, pn_addm, c_le_t, c_le_f, c_lt_t, c_lt_f, c_eq_f, c_eqm, bi_z, bi_1, bi_b, bi_T, bi_F, ite_not, up_eq, up_ne, or_self, or_true, true_or, or_false, false_or, and_true, true_and, and_self, not_true_eq_false, not_false_eq_true, Bool.false_eq_true]
    · simp -implicitDefEqProofs (disch := (first | omega | assumption | exact am_isS_3 | exact am_isS_25 | exact am_isX_356 | exact am_isX_359)) only [uR_end, ggR_end_0, ggR_end_1, ggR_end_2, ggR_end_3, e2, am_kI_x, am_kV_x, am_kI_i, am_nI_i, am_kV_i, am_nV_i, ↓reduceIte, eq_self, if_true, if_false, c_in, c_tn, pn_add, pn_mul, pn_subc, pn_addm, c_le_t, c_le_f, c_lt_t, c_lt_f, c_eq_f, c_eqm, bi_z, bi_1, bi_b, bi_T, bi_F, ite_not, up_eq, up_ne, or_self, or_true, true_or, or_false, false_or, and_true, true_and, and_self, not_true_eq_false, not_false_eq_true, Bool.false_eq_true]
  · refine ⟨(Int32.ofNat 0), hC, am_up hR 373 0 (Int32.ofNat 0), J0, rfl, rfl, up_eq rfl rfl, ?_, ?_⟩
    · rcases b2 with b2 | ⟨b2, b3, b4⟩
      · simp -implicitDefEqProofs (disch := (first | omega | assumption | exact am_isS_3 | exact am_isS_25 | exact am_isX_356 | exact am_isX_359)) only [uF_end, ggF_end_0, ggF_end_1, ggF_end_2, ggF_end_3, e1, b2, am_kI_x, am_kV_x, am_kI_i, am_nI_i, am_kV_i, am_nV_i, ↓reduceIte, eq_self, if_true, if_false, c_in, c_tn, pn_add, pn_mul, pn_subc, pn_addm, c_le_t, c_le_f, c_lt_t, c_lt_f, c_eq_f, c_eqm, bi_z, bi_1, bi_b, bi_T, bi_F, ite_not, up_eq, up_ne, or_self, or_true, true_or, or_false, false_or, and_true, true_and, and_self, not_true_eq_false, not_false_eq_true, Bool.false_eq_true]
      · simp -implicitDefEqProofs (disch := (first | omega | assumption | exact am_isS_3 | exact am_isS_25 | exact am_isX_356 | exact am_isX_359)) only [uF_end, ggF_end_0, ggF_end_1, ggF_end_2, ggF_end_3, e1, b2, b3, am_kI_x, am_kV_x, am_kI_i, am_nI_i, am_kV_i, am_nV_i, ↓reduceIte, eq_self, if_true, if_false, c_in, c_tn, pn_add, pn_mul, pn_subc, pn_addm, c_le_t, c_le_f, c_lt_t, c_lt_f, c_eq_f, c_eqm, bi_z, bi_1, bi_b, bi_T, bi_F, ite_not, up_eq, up_ne, or_self, or_true, true_or, or_false, false_or, and_true, true_and, and_self, not_true_eq_false, not_false_eq_true, Bool.false_eq_true]
    · rcases b2 with b2 | ⟨b2, b3, b4⟩
      · simp -implicitDefEqProofs (disch := (first | omega | assumption | exact am_isS_3 | exact am_isS_25 | exact am_isX_356 | exact am_isX_359)) only [uR_end, ggR_end_0, ggR_end_1, ggR_end_2, ggR_end_3, e2, b2, am_kI_x, am_kV_x, am_kI_i, am_nI_i, am_kV_i, am_nV_i, ↓reduceIte, eq_self, if_true, if_false, c_in, c_tn, pn_add, pn_mul, pn_subc, pn_addm, c_le_t, c_le_f, c_lt_t, c_lt_f, c_eq_f, c_eqm, bi_z, bi_1, bi_b, bi_T, bi_F, ite_not, up_eq, up_ne, or_self, or_true, true_or, or_false, false_or, and_true, true_and, and_self, not_true_eq_false, not_false_eq_true, Bool.false_eq_true]
      · simp -implicitDefEqProofs (disch := (first | omega | assumption | exact am_isS_3 | exact am_isS_25 | exact am_isX_356 | exact am_isX_359)) only [uR_end, ggR_end_0, ggR_end_1, ggR_end_2, ggR_end_3, e2, b2, b3, am_kI_x, am_kV_x, am_kI_i, am_nI_i, am_kV_i, am_nV_i, ↓reduceIte, eq_self, if_true, if_false, c_in, c_tn, pn_add, pn_mul, pn_subc, pn_addm, c_le_t, c_le_f, c_lt_t, c_lt_f, c_eq_f, c_eqm, bi_z, bi_1, bi_b, bi_T, bi_F, ite_not, up_eq, up_ne, or_self, or_true, true_or, or_false, false_or, and_true, true_and, and_self, not_true_eq_false, not_false_eq_true, Bool.false_eq_true]
