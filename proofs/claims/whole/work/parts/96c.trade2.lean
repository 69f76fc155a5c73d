/-! trades of the class -/
theorem xM_pointAll {W : Nat → Int32} {N G m : Nat} {v : Nat → Nat} (S : subK W N m) (V : vOK W v) (d : Nat) : ∀ k c (h : am_H), c + k = N → RelS h 3 W N G → ∃ h', am_go (am_cl (d + 3)) qM_pointAll 1 [.ref 365, .ref 3, .int (Int32.ofNat m), .int (Int32.ofNat c)] [] h = some (.inl none, h') ∧ h'.1 = h.1 ∧ (∀ x, c ≤ x → m.testBit x = true → h'.2 369 x = (Int32.ofNat (PT (gdK W v) N m.testBit x))) ∧ ∀ p i, (p ≠ 369 ∨ i < c ∨ ¬ m.testBit i = true) → h'.2 p i = h.2 p i := by
  intro k
  induction k with
  | zero =>
    intro c h hc R
    have r4 := R.2.2.2.1
    have hN := R.1
    have hc : c = N := by omega
    subst hc
    refine ⟨h, ?_, rfl, fun x h1 h2 => by have := (S.2 x h2).1; omega, fun _ _ _ => rfl⟩
    rw [ggM_pointAll_1]
    simp -implicitDefEqProofs (disch := (first | omega | assumption | exact am_isS_3 | exact am_isS_25 | exact am_isX_356 | exact am_isX_359)) only [ggM_pointAll_0, ggM_pointAll_2, ggM_pointAll_3, ggM_pointAll_4, ggM_pointAll_5, ccM_pointAll_3_1, r4, am_kI_x, am_kV_x, am_kI_i, am_nI_i, am_kV_i, am_nV_i, ↓reduceIte, eq_self, if_true, if_false, c_in, c_tn, pn_add, pn_mul, pn_subc, pn_addm, c_le_t, c_le_f, c_lt_t, c_lt_f, c_eq_f, c_eqm, bi_z, bi_1, bi_b, bi_T, bi_F, ite_not, up_eq, up_ne, or_self, or_true, true_or, or_false, false_or, and_true, true_and, and_self, not_true_eq_false, not_false_eq_true, Bool.false_eq_true]
  | succ k ih =>
    intro c h hc R
    have r4 := R.2.2.2.1
    have hN := R.1
    have hm := zb_m (m := m) (c := c) (by omega)
    by_cases h1 : m.testBit c = true
    · have pj := fun d => xM_rathest R S V h1 d
      obtain ⟨h', a, b, e, f⟩ := ih (c + 1) (am_up h 369 c (Int32.ofNat (PT (gdK W v) N m.testBit c))) (by omega) (R.frame (fun p q1 q2 => up_o (by omega)))
      refine ⟨h', ?_, b, fun x h2 h3 => ?_, fun p i hp => ?_⟩
      · rw [ggM_pointAll_1]
        simp -implicitDefEqProofs (disch := (first | omega | assumption | exact am_isS_3 | exact am_isS_25 | exact am_isX_356 | exact am_isX_359)) only [ggM_pointAll_0, ggM_pointAll_2, ggM_pointAll_3, ggM_pointAll_4, ggM_pointAll_5, ccM_pointAll_3_1, r4, hm, h1, pj, am_kI_x, am_kV_x, am_kI_i, am_nI_i, am_kV_i, am_nV_i, ↓reduceIte, eq_self, if_true, if_false, c_in, c_tn, pn_add, pn_mul, pn_subc, pn_addm, c_le_t, c_le_f, c_lt_t, c_lt_f, c_eq_f, c_eqm, bi_z, bi_1, bi_b, bi_T, bi_F, ite_not, up_eq, up_ne, or_self, or_true, true_or, or_false, false_or, and_true, true_and, and_self, not_true_eq_false, not_false_eq_true, Bool.false_eq_true]
        exact a
      · by_cases z : x = c
        · subst z
          rw [f 369 x (by omega), up_eq rfl rfl]
        · exact e x (by omega) h3
      · have hi : p ≠ 369 ∨ i ≠ c := by
          rcases hp with q | q | q
          · exact Or.inl q
          · exact Or.inr (by omega)
          · exact Or.inr (fun z => q (by rw [z]; exact h1))
        rw [f p i (hp.imp id (Or.imp (fun q => Nat.lt_succ_of_lt q) id)), up_ne (by omega)]
    · obtain ⟨h', a, b, e, f⟩ := ih (c + 1) h (by omega) R
      refine ⟨h', ?_, b, fun x h2 h3 => ?_, fun p i hp => f p i (hp.imp id (Or.imp (fun q => Nat.lt_succ_of_lt q) id))⟩
      · rw [ggM_pointAll_1]
        simp -implicitDefEqProofs (disch := (first | omega | assumption | exact am_isS_3 | exact am_isS_25 | exact am_isX_356 | exact am_isX_359)) only [ggM_pointAll_0, ggM_pointAll_2, ggM_pointAll_3, ggM_pointAll_4, ggM_pointAll_5, ccM_pointAll_3_1, r4, hm, h1, am_kI_x, am_kV_x, am_kI_i, am_nI_i, am_kV_i, am_nV_i, ↓reduceIte, eq_self, if_true, if_false, c_in, c_tn, pn_add, pn_mul, pn_subc, pn_addm, c_le_t, c_le_f, c_lt_t, c_lt_f, c_eq_f, c_eqm, bi_z, bi_1, bi_b, bi_T, bi_F, ite_not, up_eq, up_ne, or_self, or_true, true_or, or_false, false_or, and_true, true_and, and_self, not_true_eq_false, not_false_eq_true, Bool.false_eq_true]
        exact a
      · by_cases z : x = c
        · rw [z] at h3; exact absurd h3 h1
        · exact e x (by omega) h3
theorem xM_ringFrom {h : am_H} {f : Nat → Nat} {c : Nat} (hlt : ∀ n, it f n c < 8) (hp : ∀ n, h.2 369 (it f n c) = (Int32.ofNat (f (it f n c)))) (d : Nat) : ∃ r, r ≤ 8 ∧ am_cl (d + 1) qM_ringFrom [.ref 365, .int (Int32.ofNat c)] h = some (.inl (some ((Int32.ofNat r))), h) ∧ (r = 0 ∧ (∀ p, ¬ per f c p) ∨ 1 ≤ r ∧ per f c r) := by
  have l : ∀ k j, j + k = 8 → (∀ i, 1 ≤ i → i ≤ j → it f i c ≠ c) → ∃ r, r ≤ 8 ∧ am_go (am_cl d) qM_ringFrom 1 [.ref 365, .int (Int32.ofNat c), .int (Int32.ofNat (it f j c)), .int (Int32.ofNat (j + 1))] [] h = some (.inl (some ((Int32.ofNat r))), h) ∧ (r = 0 ∧ (∀ p, ¬ per f c p) ∨ 1 ≤ r ∧ per f c r) := by
    intro k
    induction k with
    | zero =>
      intro j hj hn
      have hj : j = 8 := by omega
      subst hj
      refine ⟨0, by omega, ?_, Or.inl ⟨rfl, fun p hper => hn p hper.1 (per_le hlt hper) hper.2.1⟩⟩
      rw [ggM_ringFrom_1]
      simp -implicitDefEqProofs (disch := (first | omega | assumption | exact am_isS_3 | exact am_isS_25 | exact am_isX_356 | exact am_isX_359)) only [ggM_ringFrom_0, ggM_ringFrom_2, ggM_ringFrom_3, ggM_ringFrom_4, ggM_ringFrom_5, am_kI_x, am_kV_x, am_kI_i, am_nI_i, am_kV_i, am_nV_i, ↓reduceIte, eq_self, if_true, if_false, c_in, c_tn, pn_add, pn_mul, pn_subc, pn_addm, c_le_t, c_le_f, c_lt_t, c_lt_f, c_eq_f, c_eqm, bi_z, bi_1, bi_b, bi_T, bi_F, ite_not, up_eq, up_ne, or_self, or_true, true_or, or_false, false_or, and_true, true_and, and_self, not_true_eq_false, not_false_eq_true, Bool.false_eq_true]
    | succ k ih =>
      intro j hj hn
      have l1 := hlt j
      have l2 := hlt (j + 1)
      have l0 := hlt 0
      have l0 : c < 8 := l0
      have pj := hp j
      rw [it_S] at l2
      by_cases hq : f (it f j c) = c
      · refine ⟨j + 1, by omega, ?_, Or.inr ⟨by omega, by omega, by rw [it_S]; exact hq, fun i i1 i2 => hn i i1 (by omega)⟩⟩
        rw [ggM_ringFrom_1]
        simp -implicitDefEqProofs (disch := (first | omega | assumption | exact am_isS_3 | exact am_isS_25 | exact am_isX_356 | exact am_isX_359)) only [ggM_ringFrom_0, ggM_ringFrom_2, ggM_ringFrom_3, ggM_ringFrom_4, ggM_ringFrom_5, pj, hq, am_kI_x, am_kV_x, am_kI_i, am_nI_i, am_kV_i, am_nV_i, ↓reduceIte, eq_self, if_true, if_false, c_in, c_tn, pn_add, pn_mul, pn_subc, pn_addm, c_le_t, c_le_f, c_lt_t, c_lt_f, c_eq_f, c_eqm, bi_z, bi_1, bi_b, bi_T, bi_F, ite_not, up_eq, up_ne, or_self, or_true, true_or, or_false, false_or, and_true, true_and, and_self, not_true_eq_false, not_false_eq_true, Bool.false_eq_true]
      · obtain ⟨r, r1, r2, r3⟩ := ih (j + 1) (by omega) (fun i i1 i2 => by
          by_cases z : i = j + 1
          · rw [z, it_S]; exact hq
          · exact hn i i1 (by omega))
        refine ⟨r, r1, ?_, r3⟩
        rw [it_S] at r2
        rw [ggM_ringFrom_1]
        simp -implicitDefEqProofs (disch := (first | omega | assumption | exact am_isS_3 | exact am_isS_25 | exact am_isX_356 | exact am_isX_359)) only [ggM_ringFrom_0, ggM_ringFrom_2, ggM_ringFrom_3, ggM_ringFrom_4, ggM_ringFrom_5, pj, hq, am_kI_x, am_kV_x, am_kI_i, am_nI_i, am_kV_i, am_nV_i, ↓reduceIte, eq_self, if_true, if_false, c_in, c_tn, pn_add, pn_mul, pn_subc, pn_addm, c_le_t, c_le_f, c_lt_t, c_lt_f, c_eq_f, c_eqm, bi_z, bi_1, bi_b, bi_T, bi_F, ite_not, up_eq, up_ne, or_self, or_true, true_or, or_false, false_or, and_true, true_and, and_self, not_true_eq_false, not_false_eq_true, Bool.false_eq_true]
        exact r2
  rw [uM_ringFrom, ggM_ringFrom_0]
  exact l 8 0 (by omega) (fun i i1 i2 => by omega)
theorem xM_closeRings {W : Nat → Int32} {N G m : Nat} {f : Nat → Nat} (S : subK W N m) (hin : ∀ a, m.testBit a = true → ∀ n, m.testBit (it f n a) = true) (d : Nat) : ∀ k c D (h : am_H) (x5 : Value), c + k = N → D < 256 → (∀ x, D.testBit x = true ↔ x < c ∧ m.testBit x = true ∧ ∃ p, per f x p) → RelS h 3 W N G → (∀ x, m.testBit x = true → h.2 369 x = (Int32.ofNat (f x))) → ∃ D' h', am_go (am_cl (d + 1)) qM_closeRings 1 [.ref 365, .ref 3, .int (Int32.ofNat m), .int (Int32.ofNat D), .int (Int32.ofNat c), x5] [] h = some (.inl (some ((Int32.ofNat D'))), h') ∧ h'.1 = h.1 ∧ D' < 256 ∧ (∀ x, D'.testBit x = true ↔ m.testBit x = true ∧ ∃ p, per f x p) ∧ (∀ x, c ≤ x → D'.testBit x = true → h'.2 367 x = (Int32.ofNat (f x)) ∧ ∃ p, p ≤ 8 ∧ per f x p ∧ h'.2 368 x = (Int32.ofNat p)) ∧ ∀ p i, (p ≠ 367 ∧ p ≠ 368 ∨ i < c ∨ ¬ D'.testBit i = true) → h'.2 p i = h.2 p i := by
  intro k
  induction k with
  | zero =>
    intro c D h x5 hc hD hx R e
    have r4 := R.2.2.2.1
    have hN := R.1
    have hc : c = N := by omega
    subst hc
    refine ⟨D, h, ?_, rfl, hD, fun x => ?_, fun x h1 h2 => by have := ((hx x).mp h2).1; omega, fun _ _ _ => rfl⟩
    · rw [ggM_closeRings_1]
      simp -implicitDefEqProofs (disch := (first | omega | assumption | exact am_isS_3 | exact am_isS_25 | exact am_isX_356 | exact am_isX_359)) only [ggM_closeRings_0, ggM_closeRings_2, ggM_closeRings_3, ggM_closeRings_4, ggM_closeRings_5, ggM_closeRings_6, ggM_closeRings_7, ggM_closeRings_8, ccM_closeRings_3_1, r4, am_kI_x, am_kV_x, am_kI_i, am_nI_i, am_kV_i, am_nV_i, ↓reduceIte, eq_self, if_true, if_false, c_in, c_tn, pn_add, pn_mul, pn_subc, pn_addm, c_le_t, c_le_f, c_lt_t, c_lt_f, c_eq_f, c_eqm, bi_z, bi_1, bi_b, bi_T, bi_F, ite_not, up_eq, up_ne, or_self, or_true, true_or, or_false, false_or, and_true, true_and, and_self, not_true_eq_false, not_false_eq_true, Bool.false_eq_true]
    · rw [hx]
      exact ⟨fun q => q.2, fun q => ⟨(S.2 x q.1).1, q⟩⟩
  | succ k ih =>
    intro c D h x5 hc hD hx R e
    have r4 := R.2.2.2.1
    have hN := R.1
    have hm := zb_m (m := m) (c := c) (by omega)
    have skip : (¬ (m.testBit c = true ∧ ∃ p, per f c p)) → ∀ x, D.testBit x = true ↔ x < c + 1 ∧ m.testBit x = true ∧ ∃ p, per f x p := fun hno x => by
      rw [hx]
      constructor
      · exact fun q => ⟨by omega, q.2⟩
      · intro q
        by_cases z : x = c
        · rw [z] at q; exact absurd q.2 hno
        · exact ⟨by omega, q.2⟩
    by_cases h1 : m.testBit c = true
    · have hlt : ∀ n, it f n c < 8 := fun n => by have := (S.2 _ (hin c h1 n)).1; omega
      obtain ⟨r, r1, r2, r3⟩ := xM_ringFrom (h := h) hlt (fun n => e _ (hin c h1 n)) d
      rcases r3 with ⟨r0, hnp⟩ | ⟨rp, hper⟩
      · subst r0
        obtain ⟨D', h', a, b, c1, c2, c3, c4⟩ := ih (c + 1) D h (.int (Int32.ofNat 0)) (by omega) hD (skip (fun q => by obtain ⟨p, hp⟩ := q.2; exact hnp p hp)) R e
        refine ⟨D', h', ?_, b, c1, c2, fun x h2 h3 => ?_, fun p i hp => c4 p i (hp.imp id (Or.imp (fun q => Nat.lt_succ_of_lt q) id))⟩
        · rw [ggM_closeRings_1]
          simp -implicitDefEqProofs (disch := (first | omega | assumption | exact am_isS_3 | exact am_isS_25 | exact am_isX_356 | exact am_isX_359)) only [ggM_closeRings_0, ggM_closeRings_2, ggM_closeRings_3, ggM_closeRings_4, ggM_closeRings_5, ggM_closeRings_6, ggM_closeRings_7, ggM_closeRings_8, ccM_closeRings_3_1, r4, hm, h1, r2, am_kI_x, am_kV_x, am_kI_i, am_nI_i, am_kV_i, am_nV_i, ↓reduceIte, eq_self, if_true, if_false, c_in, c_tn, pn_add, pn_mul, pn_subc, pn_addm, c_le_t, c_le_f, c_lt_t, c_lt_f, c_eq_f, c_eqm, bi_z, bi_1, bi_b, bi_T, bi_F, ite_not, up_eq, up_ne, or_self, or_true, true_or, or_false, false_or, and_true, true_and, and_self, not_true_eq_false, not_false_eq_true, Bool.false_eq_true]
          exact a
        · by_cases z : x = c
          · rw [z] at h3
            obtain ⟨p, hp⟩ := ((c2 c).mp h3).2
            exact absurd hp (hnp p)
          · exact c3 x (by omega) h3
      · have ec := e c h1
        obtain ⟨o1, o2⟩ := ob_at hD (o := c) (by omega)
        obtain ⟨D', h', a, b, c1, c2, c3, c4⟩ := ih (c + 1) (D ||| 2 ^ c) (am_up (am_up h 368 c (Int32.ofNat r)) 367 c (Int32.ofNat (f c))) (.int (Int32.ofNat r)) (by omega) o2 (fun x => by
          rw [or_bit, Bool.or_eq_true, decide_eq_true_eq, hx]
          constructor
          · rintro (q | q)
            · exact ⟨by omega, q.2⟩
            · subst q; exact ⟨by omega, h1, r, hper⟩
          · intro q
            by_cases z : c = x
            · exact Or.inr z
            · exact Or.inl ⟨by omega, q.2⟩) (R.frame (fun p q1 q2 => by rw [up_o (by omega), up_o (by omega)])) (fun x hx' => by rw [up_ne (by omega), up_ne (by omega)]; exact e x hx')
        have hD' : D'.testBit c = true := (c2 c).mpr ⟨h1, r, hper⟩
        refine ⟨D', h', ?_, b, c1, c2, fun x h2 h3 => ?_, fun p i hp => ?_⟩
        · rw [ggM_closeRings_1]
          simp -implicitDefEqProofs (disch := (first | omega | assumption | exact am_isS_3 | exact am_isS_25 | exact am_isX_356 | exact am_isX_359)) only [ggM_closeRings_0, ggM_closeRings_2, ggM_closeRings_3, ggM_closeRings_4, ggM_closeRings_5, ggM_closeRings_6, ggM_closeRings_7, ggM_closeRings_8, ccM_closeRings_3_1, r4, hm, h1, r2, ec, o1, am_kI_x, am_kV_x, am_kI_i, am_nI_i, am_kV_i, am_nV_i, ↓reduceIte, eq_self, if_true, if_false, c_in, c_tn, pn_add, pn_mul, pn_subc, pn_addm, c_le_t, c_le_f, c_lt_t, c_lt_f, c_eq_f, c_eqm, bi_z, bi_1, bi_b, bi_T, bi_F, ite_not, up_eq, up_ne, or_self, or_true, true_or, or_false, false_or, and_true, true_and, and_self, not_true_eq_false, not_false_eq_true, Bool.false_eq_true]
          exact a
        · by_cases z : x = c
          · subst z
            rw [c4 367 x (by omega), c4 368 x (by omega), up_eq rfl rfl, up_ne (by omega), up_eq rfl rfl]
            exact ⟨rfl, r, r1, hper, rfl⟩
          · exact c3 x (by omega) h3
        · have hi : p ≠ 367 ∧ p ≠ 368 ∨ i ≠ c := by
            rcases hp with q | q | q
            · exact Or.inl q
            · exact Or.inr (by omega)
            · exact Or.inr (fun z => q (by rw [z]; exact hD'))
          rw [c4 p i (hp.imp id (Or.imp (fun q => Nat.lt_succ_of_lt q) id)), up_ne (by omega), up_ne (by omega)]
    · obtain ⟨D', h', a, b, c1, c2, c3, c4⟩ := ih (c + 1) D h (.int (Int32.ofNat 0)) (by omega) hD (skip (fun q => h1 q.1)) R e
      refine ⟨D', h', ?_, b, c1, c2, fun x h2 h3 => ?_, fun p i hp => c4 p i (hp.imp id (Or.imp (fun q => Nat.lt_succ_of_lt q) id))⟩
      · rw [ggM_closeRings_1]
        simp -implicitDefEqProofs (disch := (first | omega | assumption | exact am_isS_3 | exact am_isS_25 | exact am_isX_356 | exact am_isX_359)) only [ggM_closeRings_0, ggM_closeRings_2, ggM_closeRings_3, ggM_closeRings_4, ggM_closeRings_5, ggM_closeRings_6, ggM_closeRings_7, ggM_closeRings_8, ccM_closeRings_3_1, r4, hm, h1, am_kI_x, am_kV_x, am_kI_i, am_nI_i, am_kV_i, am_nV_i, ↓reduceIte, eq_self, if_true, if_false, c_in, c_tn, pn_add, pn_mul, pn_subc, pn_addm, c_le_t, c_le_f, c_lt_t, c_lt_f, c_eq_f, c_eqm, bi_z, bi_1, bi_b, bi_T, bi_F, ite_not, up_eq, up_ne, or_self, or_true, true_or, or_false, false_or, and_true, true_and, and_self, not_true_eq_false, not_false_eq_true, Bool.false_eq_true]
        exact a
      · by_cases z : x = c
        · rw [z] at h3; exact absurd ((c2 c).mp h3).1 h1
        · exact c3 x (by omega) h3
theorem settle_4 {W : Nat → Int32} {N G : Nat} {v : Nat → Nat} (V : vOK W v) (d : Nat) : ∀ n m r (h : am_H), subK W N m → cnt m.testBit 8 ≤ n → r + n ≤ 8 → RelS h 3 W N G → ∃ h' n', am_go (am_cl (d + 4)) qM_settleTrade 4 [.ref 365, .ref 3, .int (Int32.ofNat m), .int (Int32.ofNat r)] [] h = some (.inl none, h') ∧ h'.1 = h.1 ∧ Out (gdK W v) N n' m.testBit (fun x => (h'.2 367 x).toNatClampNeg) (fun x => (h'.2 368 x).toNatClampNeg) ∧ (∀ x, m.testBit x = true → rg (h'.2 367 x) 100 ∧ rg (h'.2 368 x) 100) ∧ ∀ p i, (p ≠ 367 ∧ p ≠ 368 ∧ p ≠ 369 ∨ p ≠ 369 ∧ ¬ m.testBit i = true) → h'.2 p i = h.2 p i := by
  intro n
  induction n with
  | zero =>
    intro m r h S hn hr R
    have hz : ∀ x, ¬ m.testBit x = true := fun x hx => by
      have := cnt_set (p := fun _ => false) (q := fun y => decide (y = x)) (c := x) rfl (decide_eq_true rfl) (N := 8) (fun j _ hj => decide_eq_false hj) (by have := (S.2 x hx).1; have := R.1; omega)
      have h2 := (cnt_mono (p := fun y => decide (y = x)) (q := m.testBit) (N := 8) (fun c _ hc => by rw [of_decide_eq_true hc]; exact hx)).1
      omega
    have h0 := m_0 S.1 hz
    subst h0
    refine ⟨h, 0, ?_, rfl, fun x => Bool.eq_false_iff.mpr (hz x), fun x hx => absurd hx (hz x), fun _ _ _ => rfl⟩
    rw [ggM_settleTrade_4]
    by_cases h8 : 8 ≤ r
    · simp -implicitDefEqProofs (disch := (first | omega | assumption | exact am_isS_3 | exact am_isS_25 | exact am_isX_356 | exact am_isX_359)) only [ggM_settleTrade_0, ggM_settleTrade_2, ggM_settleTrade_3, ggM_settleTrade_5, ggM_settleTrade_6, ggM_settleTrade_7, ccM_settleTrade_3_2, ccM_settleTrade_3_1, ccM_settleTrade_6_2, ccM_settleTrade_6_1, am_kI_x, am_kV_x, am_kI_i, am_nI_i, am_kV_i, am_nV_i, ↓reduceIte, eq_self, if_true, if_false, c_in, c_tn, pn_add, pn_mul, pn_subc, pn_addm, c_le_t, c_le_f, c_lt_t, c_lt_f, c_eq_f, c_eqm, bi_z, bi_1, bi_b, bi_T, bi_F, ite_not, up_eq, up_ne, or_self, or_true, true_or, or_false, false_or, and_true, true_and, and_self, not_true_eq_false, not_false_eq_true, Bool.false_eq_true]
    · simp -implicitDefEqProofs (disch := (first | omega | assumption | exact am_isS_3 | exact am_isS_25 | exact am_isX_356 | exact am_isX_359)) only [ggM_settleTrade_0, ggM_settleTrade_2, ggM_settleTrade_3, ggM_settleTrade_5, ggM_settleTrade_6, ggM_settleTrade_7, ccM_settleTrade_3_2, ccM_settleTrade_3_1, ccM_settleTrade_6_2, ccM_settleTrade_6_1, am_kI_x, am_kV_x, am_kI_i, am_nI_i, am_kV_i, am_nV_i, ↓reduceIte, eq_self, if_true, if_false, c_in, c_tn, pn_add, pn_mul, pn_subc, pn_addm, c_le_t, c_le_f, c_lt_t, c_lt_f, c_eq_f, c_eqm, bi_z, bi_1, bi_b, bi_T, bi_F, ite_not, up_eq, up_ne, or_self, or_true, true_or, or_false, false_or, and_true, true_and, and_self, not_true_eq_false, not_false_eq_true, Bool.false_eq_true]
  | succ n ih =>
    intro m r h S hn hr R
    have hN := R.1
    by_cases h0 : m = 0
    · subst h0
      have hz : ∀ x, ¬ (0 : Nat).testBit x = true := fun x => by rw [Nat.zero_testBit]; decide
      refine ⟨h, 0, ?_, rfl, fun x => Bool.eq_false_iff.mpr (hz x), fun x hx => absurd hx (hz x), fun _ _ _ => rfl⟩
      rw [ggM_settleTrade_4]
      by_cases h8 : 8 ≤ r
      · simp -implicitDefEqProofs (disch := (first | omega | assumption | exact am_isS_3 | exact am_isS_25 | exact am_isX_356 | exact am_isX_359)) only [ggM_settleTrade_0, ggM_settleTrade_2, ggM_settleTrade_3, ggM_settleTrade_5, ggM_settleTrade_6, ggM_settleTrade_7, ccM_settleTrade_3_2, ccM_settleTrade_3_1, ccM_settleTrade_6_2, ccM_settleTrade_6_1, am_kI_x, am_kV_x, am_kI_i, am_nI_i, am_kV_i, am_nV_i, ↓reduceIte, eq_self, if_true, if_false, c_in, c_tn, pn_add, pn_mul, pn_subc, pn_addm, c_le_t, c_le_f, c_lt_t, c_lt_f, c_eq_f, c_eqm, bi_z, bi_1, bi_b, bi_T, bi_F, ite_not, up_eq, up_ne, or_self, or_true, true_or, or_false, false_or, and_true, true_and, and_self, not_true_eq_false, not_false_eq_true, Bool.false_eq_true]
      · simp -implicitDefEqProofs (disch := (first | omega | assumption | exact am_isS_3 | exact am_isS_25 | exact am_isX_356 | exact am_isX_359)) only [ggM_settleTrade_0, ggM_settleTrade_2, ggM_settleTrade_3, ggM_settleTrade_5, ggM_settleTrade_6, ggM_settleTrade_7, ccM_settleTrade_3_2, ccM_settleTrade_3_1, ccM_settleTrade_6_2, ccM_settleTrade_6_1, am_kI_x, am_kV_x, am_kI_i, am_nI_i, am_kV_i, am_nV_i, ↓reduceIte, eq_self, if_true, if_false, c_in, c_tn, pn_add, pn_mul, pn_subc, pn_addm, c_le_t, c_le_f, c_lt_t, c_lt_f, c_eq_f, c_eqm, bi_z, bi_1, bi_b, bi_T, bi_F, ite_not, up_eq, up_ne, or_self, or_true, true_or, or_false, false_or, and_true, true_and, and_self, not_true_eq_false, not_false_eq_true, Bool.false_eq_true]
    · have hm := S.1
      obtain ⟨n1, n2⟩ := m_bit hm h0
      obtain ⟨h1, a1, a2, a3, a4⟩ := xM_pointAll S V d N 0 h (by omega) R
      have hin := fun a (ha : m.testBit a = true) n => it_in (g := gdK W v) (N := N) (L := m.testBit) ha n
      have R1 : RelS h1 3 W N G := R.frame (fun p q1 q2 => by funext i; exact a4 p i (Or.inl (by omega)))
      obtain ⟨D, h2, b1, b2, b3, b4, b5, b6⟩ := xM_closeRings S hin (d + 2) N 0 0 h1 .null (by omega) (by omega) (fun x => by rw [Nat.zero_testBit]; exact ⟨fun z => absurd z (by decide), fun q => by omega⟩) R1 (fun x hx => a3 x (Nat.zero_le _) hx)
      have R2 : RelS h2 3 W N G := R1.frame (fun p q1 q2 => by funext i; exact b6 p i (Or.inl ⟨by omega, by omega⟩))
      have hD : ∀ x, D.testBit x = true → m.testBit x = true := fun x hx => ((b4 x).mp hx).1
      have hlt : ∀ n, it (PT (gdK W v) N m.testBit) n (ntzN 10 m) < 8 := fun n => by have := (S.2 _ (hin _ n2 n)).1; omega
      obtain ⟨q, q1, q2, q3⟩ := ring_ex hlt
      obtain ⟨p, p1, p2⟩ := per_ex q q (Nat.le_refl _) q1 q3
      have dn : D.testBit (it (PT (gdK W v) N m.testBit) 8 (ntzN 10 m)) = true := (b4 _).mpr ⟨hin _ n2 8, p, p2⟩
      obtain ⟨m', c1, c2, c3⟩ := andn_at hm b3
      have em : m'.testBit = fun x => m.testBit x && !D.testBit x := funext c3
      obtain ⟨h', n', f1, f2, f3, f4, f5⟩ := ih m' (r + 1) h2 ⟨c1, fun x hx => S.2 x (by rw [c3 x] at hx; exact (sub_t.mp hx).1)⟩ (by rw [em]; exact cnt_drop (hlt 8) (hin _ n2 8) dn hn) (by omega) R2
      rw [em] at f3
      have ho : ∀ x, D.testBit x = true → h'.2 367 x = (Int32.ofNat (PT (gdK W v) N m.testBit x)) ∧ ∃ p, p ≤ 8 ∧ per (PT (gdK W v) N m.testBit) x p ∧ h'.2 368 x = (Int32.ofNat p) := fun x hx => by
        have hnm : ¬ m'.testBit x = true := by rw [c3 x, hx]; simp
        rw [f5 367 x (Or.inr ⟨by omega, hnm⟩), f5 368 x (Or.inr ⟨by omega, hnm⟩)]
        exact b5 x (Nat.zero_le _) hx
      have hpt : ∀ x, D.testBit x = true → PT (gdK W v) N m.testBit x < 8 := fun x hx => by
        have := (S.2 _ (PT_spec (g := gdK W v) (N := N) (hD x hx)).1).1
        omega
      refine ⟨h', n' + cnt D.testBit N, ?_, f2.trans (b2.trans a2), Out_many (cnt D.testBit N) n' m.testBit D.testBit (fun x hx => (S.2 x hx).1) (Nat.le_refl _) hD (fun x hx => ?_) (fun x hx => ?_) (fun x hx => ?_) f3, fun x hx => ?_, fun p i hp => ?_⟩
      · have a1' : am_cl (d + 4) qM_pointAll [.ref 365, .ref 3, .int (Int32.ofNat m)] h = some (.inl none, h1) := by
          rw [uM_pointAll, ggM_pointAll_0]; exact a1
        have b1' : am_cl (d + 4) qM_closeRings [.ref 365, .ref 3, .int (Int32.ofNat m)] h1 = some (.inl (some ((Int32.ofNat D))), h2) := by
          rw [uM_closeRings, ggM_closeRings_0]; exact b1
        have hr8 : r < 8 := by omega
        rw [ggM_settleTrade_4]
        simp -implicitDefEqProofs (disch := (first | omega | assumption | exact am_isS_3 | exact am_isS_25 | exact am_isX_356 | exact am_isX_359)) only [ggM_settleTrade_0, ggM_settleTrade_2, ggM_settleTrade_3, ggM_settleTrade_5, ggM_settleTrade_6, ggM_settleTrade_7, ccM_settleTrade_3_2, ccM_settleTrade_3_1, ccM_settleTrade_6_2, ccM_settleTrade_6_1, a1', b1', c2, am_kI_x, am_kV_x, am_kI_i, am_nI_i, am_kV_i, am_nV_i, ↓reduceIte, eq_self, if_true, if_false, c_in, c_tn, pn_add, pn_mul, pn_subc, pn_addm, c_le_t, c_le_f, c_lt_t, c_lt_f, c_eq_f, c_eqm, bi_z, bi_1, bi_b, bi_T, bi_F, ite_not, up_eq, up_ne, or_self, or_true, true_or, or_false, false_or, and_true, true_and, and_self, not_true_eq_false, not_false_eq_true, Bool.false_eq_true]
        exact f1
      · obtain ⟨x1, p, x2⟩ := (b4 x).mp hx
        exact (b4 _).mpr ⟨hin x x1 1, p, per_orb x2 1⟩
      · obtain ⟨x1, p, x2⟩ := (b4 x).mp hx
        exact ⟨p, x2.1, x2.2.1⟩
      · obtain ⟨o1, p, o2, o3, o4⟩ := ho x hx
        have := hpt x hx
        show (h'.2 367 x).toNatClampNeg = _ ∧ per _ x (h'.2 368 x).toNatClampNeg
        rw [o1, o4, c_tn (by omega), c_tn (by omega)]
        exact ⟨rfl, o3⟩
      · by_cases hC : D.testBit x = true
        · obtain ⟨o1, p, o2, o3, o4⟩ := ho x hC
          have := hpt x hC
          exact ⟨⟨_, by omega, o1⟩, ⟨_, by omega, o4⟩⟩
        · exact f4 x (by rw [c3 x]; exact sub_t.mpr ⟨hx, hC⟩)
      · have hnm : p ≠ 367 ∧ p ≠ 368 ∧ p ≠ 369 ∨ p ≠ 369 ∧ ¬ m'.testBit i = true := by
          rcases hp with q | q
          · exact Or.inl q
          · exact Or.inr ⟨q.1, by rw [c3 i]; exact fun z => q.2 (sub_t.mp z).1⟩
        rw [f5 p i hnm, b6 p i (by
          rcases hp with q | q
          · exact Or.inl ⟨q.1, q.2.1⟩
          · exact Or.inr (Or.inr (fun z => q.2 (hD i z)))), a4 p i (Or.inl (by
          rcases hp with q | q
          · exact q.2.2
          · exact q.1))]
