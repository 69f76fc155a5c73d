/-! knots: the reference's runs; moves, first -/
theorem rR_isUndone {p : Nat} (hp : p < 1024) (d : Nat) (h : am_H) : am_cl (d + 1) qR_isUndone [.int (Int32.ofNat p)] h = some (.inl (some (bi (kout p = true))), h) := by
  obtain ⟨q1, q2⟩ := pq_at hp
  by_cases ho : kout p = true
  · rw [bi_t ho]
    unfold kout at ho
    rw [Bool.or_eq_true, decide_eq_true_eq, decide_eq_true_eq] at ho
    by_cases h0 : p % 32 = 0
    · simp -implicitDefEqProofs (disch := (first | omega | assumption | exact am_isS_3 | exact am_isS_25 | exact am_isX_356 | exact am_isX_359)) only [uR_isUndone, ggR_isUndone_0, ggR_isUndone_1, ggR_isUndone_2, ggR_isUndone_3, ggR_isUndone_4, q1, q2, h0, am_kI_x, am_kV_x, am_kI_i, am_nI_i, am_kV_i, am_nV_i, ↓reduceIte, eq_self, if_true, if_false, c_in, c_tn, pn_add, pn_mul, pn_subc, pn_addm, c_le_t, c_le_f, c_lt_t, c_lt_f, c_eq_f, c_eqm, bi_z, bi_1, bi_b, bi_T, bi_F, ite_not, up_eq, up_ne, or_self, or_true, true_or, or_false, false_or, and_true, true_and, and_self, not_true_eq_false, not_false_eq_true, Bool.false_eq_true]
    · have h1 : p / 32 = 0 := by omega
      simp -implicitDefEqProofs (disch := (first | omega | assumption | exact am_isS_3 | exact am_isS_25 | exact am_isX_356 | exact am_isX_359)) only [uR_isUndone, ggR_isUndone_0, ggR_isUndone_1, ggR_isUndone_2, ggR_isUndone_3, ggR_isUndone_4, q1, q2, h1, am_kI_x, am_kV_x, am_kI_i, am_nI_i, am_kV_i, am_nV_i, ↓reduceIte, eq_self, if_true, if_false, c_in, c_tn, pn_add, pn_mul, pn_subc, pn_addm, c_le_t, c_le_f, c_lt_t, c_lt_f, c_eq_f, c_eqm, bi_z, bi_1, bi_b, bi_T, bi_F, ite_not, up_eq, up_ne, or_self, or_true, true_or, or_false, false_or, and_true, true_and, and_self, not_true_eq_false, not_false_eq_true, Bool.false_eq_true]
  · rw [bi_f ho]
    unfold kout at ho
    rw [Bool.or_eq_true, decide_eq_true_eq, decide_eq_true_eq] at ho
    have h0 : p % 32 ≠ 0 := fun q => ho (Or.inl q)
    have h1 : p / 32 ≠ 0 := fun q => ho (Or.inr q)
    simp -implicitDefEqProofs (disch := (first | omega | assumption | exact am_isS_3 | exact am_isS_25 | exact am_isX_356 | exact am_isX_359)) only [uR_isUndone, ggR_isUndone_0, ggR_isUndone_1, ggR_isUndone_2, ggR_isUndone_3, ggR_isUndone_4, q1, q2, am_kI_x, am_kV_x, am_kI_i, am_nI_i, am_kV_i, am_nV_i, ↓reduceIte, eq_self, if_true, if_false, c_in, c_tn, pn_add, pn_mul, pn_subc, pn_addm, c_le_t, c_le_f, c_lt_t, c_lt_f, c_eq_f, c_eqm, bi_z, bi_1, bi_b, bi_T, bi_F, ite_not, up_eq, up_ne, or_self, or_true, true_or, or_false, false_or, and_true, true_and, and_self, not_true_eq_false, not_false_eq_true, Bool.false_eq_true]
def QH (h : am_H) (s : Nat) (dn fn qn : Nat → Nat) (ds : Nat → Bool) (n : Nat) : Prop := (∀ p, p < 1024 → h.2 382 p = if ds p = true then (Int32.ofNat (dn p)) else -1) ∧ (∀ p, p < 1024 → ds p = true → p ≠ s → h.2 383 p = (Int32.ofNat (fn p))) ∧ h.2 383 s = -1 ∧ (∀ j, j < n → h.2 384 j = (Int32.ofNat (qn j))) ∧ h.2 373 21 = (Int32.ofNat n)
theorem rR_finds1 {h : am_H} {r n : Nat} (hr : r < 1024) (hn : n < 1024) (e1 : h.2 382 r = -1) (e2 : h.2 373 21 = (Int32.ofNat n)) (x y : Int32) (d : Nat) : am_cl (d + 1) qR_finds [.ref 373, .int (Int32.ofNat r), .int x, .int y] h = some (.inl none, am_up (am_up (am_up (am_up h 382 r x) 383 r y) 384 n (Int32.ofNat r)) 373 21 (Int32.ofNat (n + 1))) := by
  simp -implicitDefEqProofs (disch := (first | omega | assumption | exact am_isS_3 | exact am_isS_25 | exact am_isX_356 | exact am_isX_359)) only [uR_finds, ggR_finds_0, ggR_finds_1, ggR_finds_2, ggR_finds_3, ggR_finds_4, e1, e2, am_kI_x, am_kV_x, am_kI_i, am_nI_i, am_kV_i, am_nV_i, ↓reduceIte, eq_self, if_true, if_false, c_in, c_tn, pn_add, pn_mul, pn_subc, pn_addm, c_le_t, c_le_f, c_lt_t, c_lt_f, c_eq_f, c_eqm, bi_z, bi_1, bi_b, bi_T, bi_F, ite_not, up_eq, up_ne, or_self, or_true, true_or, or_false, false_or, and_true, true_and, and_self, not_true_eq_false, not_false_eq_true, Bool.false_eq_true]
theorem rR_finds2 {h : am_H} {r t f : Nat} (hr : r < 1024) (ht : t < 2000) (hf : f < 10) (e1 : h.2 382 r = (Int32.ofNat t)) {g : Nat} (hg : g < 10) (e2 : h.2 383 r = (Int32.ofNat g)) (d : Nat) : am_cl (d + 1) qR_finds [.ref 373, .int (Int32.ofNat r), .int (Int32.ofNat t), .int (Int32.ofNat f)] h = some (.inl none, am_up h 383 r (Int32.ofNat (min g f))) := by
  simp -implicitDefEqProofs (disch := (first | omega | assumption | exact am_isS_3 | exact am_isS_25 | exact am_isX_356 | exact am_isX_359)) only [uR_finds, ggR_finds_0, ggR_finds_1, ggR_finds_2, ggR_finds_3, ggR_finds_4, e1, e2, pn_min, am_kI_x, am_kV_x, am_kI_i, am_nI_i, am_kV_i, am_nV_i, ↓reduceIte, eq_self, if_true, if_false, c_in, c_tn, pn_add, pn_mul, pn_subc, pn_addm, c_le_t, c_le_f, c_lt_t, c_lt_f, c_eq_f, c_eqm, bi_z, bi_1, bi_b, bi_T, bi_F, ite_not, up_eq, up_ne, or_self, or_true, true_or, or_false, false_or, and_true, true_and, and_self, not_true_eq_false, not_false_eq_true, Bool.false_eq_true]
theorem rR_finds3 {h : am_H} {r t t' : Nat} (hr : r < 1024) (ht : t < 2000) (ht' : t' < 2000) (e1 : h.2 382 r = (Int32.ofNat t)) (hne : t ≠ t') (y : Int32) (d : Nat) : am_cl (d + 1) qR_finds [.ref 373, .int (Int32.ofNat r), .int (Int32.ofNat (t')), .int y] h = some (.inl none, h) := by
  simp -implicitDefEqProofs (disch := (first | omega | assumption | exact am_isS_3 | exact am_isS_25 | exact am_isX_356 | exact am_isX_359)) only [uR_finds, ggR_finds_0, ggR_finds_1, ggR_finds_2, ggR_finds_3, ggR_finds_4, e1, am_kI_x, am_kV_x, am_kI_i, am_nI_i, am_kV_i, am_nV_i, ↓reduceIte, eq_self, if_true, if_false, c_in, c_tn, pn_add, pn_mul, pn_subc, pn_addm, c_le_t, c_le_f, c_lt_t, c_lt_f, c_eq_f, c_eqm, bi_z, bi_1, bi_b, bi_T, bi_F, ite_not, up_eq, up_ne, or_self, or_true, true_or, or_false, false_or, and_true, true_and, and_self, not_true_eq_false, not_false_eq_true, Bool.false_eq_true]
theorem few_8 {s i : Nat} (hs : s < 1024) (x1 x2 : Int32) (d : Nat) : ∀ (k m : Nat) (h : am_H) (dn fn qn : Nat → Nat) (ds : Nat → Bool) (n fr : Nat), m + k = 10 → QH h s dn fn qn ds n → QI s dn fn qn ds n i → QM s dn fn qn ds i m → i < n → fr = qn i → ¬ kout fr = true → ∃ h' dn' fn' qn' ds' n', am_go (am_cl (d + 4)) qR_fewest 8 [.ref 373, .int x1, .int x2, .int (Int32.ofNat i), .int (Int32.ofNat fr), .int (Int32.ofNat m), .null] [] h = am_go (am_cl (d + 4)) qR_fewest 15 [.ref 373, .int x1, .int x2, .int (Int32.ofNat i), .int (Int32.ofNat fr), .int (Int32.ofNat 10), .null] [] h' ∧ h'.1 = h.1 ∧ QH h' s dn' fn' qn' ds' n' ∧ QI s dn' fn' qn' ds' n' (i + 1) ∧ n' ≤ 1024 ∧ (∀ p j, p ≠ 382 → p ≠ 383 → p ≠ 384 → (p ≠ 373 ∨ j ≠ 21) → h'.2 p j = h.2 p j) := by
  intro k
  induction k with
  | zero =>
    intro m h dn fn qn ds n fr hm KHh H M hi hfr ho
    have hm : m = 10 := by omega
    subst hm
    have cn : n ≤ 1024 := by rw [← H.2.1]; exact cnt_le _
    refine ⟨h, dn, fn, qn, ds, n, ?_, rfl, KHh, QI_next H (Or.inr M) hi, cn, fun _ _ _ _ _ _ => rfl⟩
    rw [ggR_fewest_8]
    simp -implicitDefEqProofs (disch := (first | omega | assumption | exact am_isS_3 | exact am_isS_25 | exact am_isX_356 | exact am_isX_359)) only [ggR_fewest_0, ggR_fewest_2, ggR_fewest_3, ggR_fewest_5, ggR_fewest_6, ggR_fewest_7, ggR_fewest_9, ggR_fewest_10, ggR_fewest_11, ggR_fewest_12, ggR_fewest_13, ggR_fewest_14, ggR_fewest_16, ggR_fewest_18, ggR_fewest_19, ggR_fewest_20, ggR_fewest_21, ggR_fewest_22, ggR_fewest_23, ggR_fewest_24, ggR_fewest_25, ggR_fewest_26, ggR_fewest_27, ggR_fewest_28, ggR_fewest_29, ggR_fewest_30, ggR_fewest_31, ccR_fewest_3_2, ccR_fewest_3_1, ccR_fewest_5_1, ccR_fewest_9_1, ccR_fewest_13_1, ccR_fewest_18_1, am_kI_x, am_kV_x, am_kI_i, am_nI_i, am_kV_i, am_nV_i, ↓reduceIte, eq_self, if_true, if_false, c_in, c_tn, pn_add, pn_mul, pn_subc, pn_addm, c_le_t, c_le_f, c_lt_t, c_lt_f, c_eq_f, c_eqm, bi_z, bi_1, bi_b, bi_T, bi_F, ite_not, up_eq, up_ne, or_self, or_true, true_or, or_false, false_or, and_true, true_and, and_self, not_true_eq_false, not_false_eq_true, Bool.false_eq_true]
  | succ k ih =>
    intro m h dn fn qn ds n fr hm KHh H M hi hfr ho
    obtain ⟨i1, i2, i3⟩ := H.1 i hi
    rw [← hfr] at i1 i2 i3
    have hm10 : m < 10 := by omega
    obtain ⟨r1, r2, r3, r4⟩ := kgo_at i1 hm10
    obtain ⟨K1, K2, K3, K4, K5⟩ := id KHh
    have e1 := K1 _ r1
    have e0 := K1 _ i1
    rw [if_pos i2] at e0
    have cn : n ≤ 1024 := by rw [← H.2.1]; exact cnt_le _
    have em := fun d => rR_mayMoveIn i1 hm10 d h
    have fnb : ∀ p, p < 1024 → ds p = true → p ≠ s → fn p < 10 ∧ 1 ≤ dn p := fun p hp hd hps => by
      have := RP_lt hs _ _ _ (H.2.2.2.2.2.1 p hp hd hps)
      exact ⟨this.2.1, this.2.2⟩
    by_cases hk : kmv fr m = true
    · rw [bi_t hk] at em
      have hk' : kmv (qn i) m = true := by rw [← hfr]; exact hk
      have ho' : ¬ kout (qn i) = true := by rw [← hfr]; exact ho
      have hfirst : (if fr = s then m else fn fr) < 10 := by
        by_cases z : fr = s
        · rw [if_pos z]; exact hm10
        · rw [if_neg z]; exact (fnb fr i1 i2 z).1
      have run : ∀ h', (∀ d, am_cl (d + 1) qR_finds [.ref 373, .int (Int32.ofNat (kgo fr m)), .int (Int32.ofNat (dn fr + 1)), .int (Int32.ofNat ((if fr = s then m else fn fr)))] h = some (.inl none, h')) → am_go (am_cl (d + 4)) qR_fewest 8 [.ref 373, .int x1, .int x2, .int (Int32.ofNat i), .int (Int32.ofNat fr), .int (Int32.ofNat m), .null] [] h = am_go (am_cl (d + 4)) qR_fewest 8 [.ref 373, .int x1, .int x2, .int (Int32.ofNat i), .int (Int32.ofNat fr), .int (Int32.ofNat (m + 1)), .null] [] h' := fun h' hf => by
        rw [ggR_fewest_8]
        by_cases z : fr = s
        · have d0 : dn fr = 0 := by rw [z]; exact H.2.2.2.2.1.2.2
          rw [if_pos z] at hf
          rw [d0] at hf e0
          simp -implicitDefEqProofs (disch := (first | omega | assumption | exact am_isS_3 | exact am_isS_25 | exact am_isX_356 | exact am_isX_359)) only [ggR_fewest_0, ggR_fewest_2, ggR_fewest_3, ggR_fewest_5, ggR_fewest_6, ggR_fewest_7, ggR_fewest_9, ggR_fewest_10, ggR_fewest_11, ggR_fewest_12, ggR_fewest_13, ggR_fewest_14, ggR_fewest_16, ggR_fewest_18, ggR_fewest_19, ggR_fewest_20, ggR_fewest_21, ggR_fewest_22, ggR_fewest_23, ggR_fewest_24, ggR_fewest_25, ggR_fewest_26, ggR_fewest_27, ggR_fewest_28, ggR_fewest_29, ggR_fewest_30, ggR_fewest_31, ccR_fewest_3_2, ccR_fewest_3_1, ccR_fewest_5_1, ccR_fewest_9_1, ccR_fewest_13_1, ccR_fewest_18_1, em, e0, r4, hf, k_373, am_kI_x, am_kV_x, am_kI_i, am_nI_i, am_kV_i, am_nV_i, ↓reduceIte, eq_self, if_true, if_false, c_in, c_tn, pn_add, pn_mul, pn_subc, pn_addm, c_le_t, c_le_f, c_lt_t, c_lt_f, c_eq_f, c_eqm, bi_z, bi_1, bi_b, bi_T, bi_F, ite_not, up_eq, up_ne, or_self, or_true, true_or, or_false, false_or, and_true, true_and, and_self, not_true_eq_false, not_false_eq_true, Bool.false_eq_true]
        · have f1 := (fnb fr i1 i2 z).2
          have ef := K2 fr i1 i2 z
          rw [if_neg z] at hf
          simp -implicitDefEqProofs (disch := (first | omega | assumption | exact am_isS_3 | exact am_isS_25 | exact am_isX_356 | exact am_isX_359)) only [ggR_fewest_0, ggR_fewest_2, ggR_fewest_3, ggR_fewest_5, ggR_fewest_6, ggR_fewest_7, ggR_fewest_9, ggR_fewest_10, ggR_fewest_11, ggR_fewest_12, ggR_fewest_13, ggR_fewest_14, ggR_fewest_16, ggR_fewest_18, ggR_fewest_19, ggR_fewest_20, ggR_fewest_21, ggR_fewest_22, ggR_fewest_23, ggR_fewest_24, ggR_fewest_25, ggR_fewest_26, ggR_fewest_27, ggR_fewest_28, ggR_fewest_29, ggR_fewest_30, ggR_fewest_31, ccR_fewest_3_2, ccR_fewest_3_1, ccR_fewest_5_1, ccR_fewest_9_1, ccR_fewest_13_1, ccR_fewest_18_1, em, e0, ef, r4, hf, k_373, am_kI_x, am_kV_x, am_kI_i, am_nI_i, am_kV_i, am_nV_i, ↓reduceIte, eq_self, if_true, if_false, c_in, c_tn, pn_add, pn_mul, pn_subc, pn_addm, c_le_t, c_le_f, c_lt_t, c_lt_f, c_eq_f, c_eqm, bi_z, bi_1, bi_b, bi_T, bi_F, ite_not, up_eq, up_ne, or_self, or_true, true_or, or_false, false_or, and_true, true_and, and_self, not_true_eq_false, not_false_eq_true, Bool.false_eq_true]
      by_cases hd : ds (kgo fr m) = true
      · rw [if_pos hd] at e1
        have dl : dn (kgo fr m) < 1024 := by
          obtain ⟨j, j1, j2⟩ := H.2.2.1 _ r1 hd
          have := (H.1 j j1).2.2
          rw [j2] at this
          omega
        by_cases he : dn (kgo fr m) = dn fr + 1
        · have hd' : ds (kgo (qn i) m) = true := by rw [← hfr]; exact hd
          have he' : dn (kgo (qn i) m) = dn (qn i) + 1 := by rw [← hfr]; exact he
          obtain ⟨n2, n3⟩ := QI_min H M hi ho' hm10 hk' hd' he'
          rw [← hfr] at n2 n3
          have hns : kgo fr m ≠ s := fun z => by
            have := H.2.2.2.2.1.2.2
            rw [z] at he
            omega
          have eg := K2 _ r1 hd hns
          have gb := (fnb _ r1 hd hns).1
          rw [he] at e1
          have fin := run _ (fun d => rR_finds2 r1 (by omega) hfirst e1 gb eg d)
          obtain ⟨h', dn', fn', qn', ds', n', a1, a2, a3, a4, a5, a6⟩ := ih (m + 1) (am_up h 383 (kgo fr m) (Int32.ofNat (min (fn (kgo fr m)) (if fr = s then m else fn fr)))) dn (updN fn (kgo fr m) (min (fn (kgo fr m)) (if fr = s then m else fn fr))) qn ds n fr (by omega) ⟨fun p hp => by rw [up_ne (by omega)]; exact K1 p hp, fun p hp hdp hps => by
              by_cases z : p = kgo fr m
              · rw [z, up_eq rfl rfl, updN_eq]
              · rw [up_ne (by omega), updN_ne z]; exact K2 p hp hdp hps, by rw [up_ne (by omega)]; exact K3, fun j hj => by rw [up_ne (by omega)]; exact K4 j hj, by rw [up_ne (by omega)]; exact K5⟩ n2 n3 hi hfr ho
          exact ⟨h', dn', fn', qn', ds', n', fin.trans a1, a2, a3, a4, a5, fun p j p1 p2 p3 p4 => by rw [a6 p j p1 p2 p3 p4, up_ne (by omega)]⟩
        · have fin := run h (fun d => rR_finds3 r1 (t := dn (kgo fr m)) (by omega) (by omega) e1 he _ d)
          obtain ⟨h', dn', fn', qn', ds', n', a1, a2, a3, a4, a5, a6⟩ := ih (m + 1) h dn fn qn ds n fr (by omega) KHh H (fun m' h1 h2 h3 => by
            by_cases z : m' = m
            · rw [z, ← hfr]
              obtain ⟨j, j1, j2⟩ := H.2.2.1 _ r1 hd
              have hle := H.2.2.2.2.2.2.2 hi j j1
              rw [j2, ← hfr] at hle
              exact ⟨hd, hle, fun q => absurd q he⟩
            · exact M m' (by omega) h2 h3) hi hfr ho
          exact ⟨h', dn', fn', qn', ds', n', fin.trans a1, a2, a3, a4, a5, a6⟩
      · have hdf := Bool.eq_false_iff.mpr hd
        have hd' : ds (kgo (qn i) m) = false := by rw [← hfr]; exact hdf
        rw [if_neg hd] at e1
        obtain ⟨n1, n2, n3⟩ := QI_add H M hi ho' hm10 hk' hd'
        rw [← hfr] at n2 n3
        have hns : kgo fr m ≠ s := fun z => by
          have := H.2.2.2.2.1.2.1
          rw [z] at hdf
          rw [hdf] at this
          exact absurd this (by decide)
        have fin := run _ (fun d => rR_finds1 r1 n1 e1 K5 _ _ d)
        obtain ⟨h', dn', fn', qn', ds', n', a1, a2, a3, a4, a5, a6⟩ := ih (m + 1) (am_up (am_up (am_up (am_up h 382 (kgo fr m) (Int32.ofNat (dn fr + 1))) 383 (kgo fr m) (Int32.ofNat (if fr = s then m else fn fr))) 384 n (Int32.ofNat (kgo fr m))) 373 21 (Int32.ofNat (n + 1))) (updN dn (kgo fr m) (dn fr + 1)) (updN fn (kgo fr m) (if fr = s then m else fn fr)) (updN qn n (kgo fr m)) (updB ds (kgo fr m)) (n + 1) fr (by omega) ⟨fun p hp => by
            rw [up_ne (by omega), up_ne (by omega), up_ne (by omega)]
            by_cases z : p = kgo fr m
            · rw [z, up_eq rfl rfl, updB_eq, updN_eq, if_pos rfl]
            · rw [up_ne (by omega), updB_ne z, updN_ne z]; exact K1 p hp, fun p hp hdp hps => by
            rw [up_ne (by omega), up_ne (by omega)]
            by_cases z : p = kgo fr m
            · rw [z, up_eq rfl rfl, updN_eq]
            · rw [updB_ne z] at hdp
              rw [up_ne (by omega), up_ne (by omega), updN_ne z]; exact K2 p hp hdp hps, by rw [up_ne (by omega), up_ne (by omega), up_ne (by omega), up_ne (by omega)]; exact K3, fun j hj => by
            rw [up_ne (by omega)]
            by_cases z : j = n
            · rw [z, up_eq rfl rfl, updN_eq]
            · rw [up_ne (by omega), up_ne (by omega), up_ne (by omega), updN_ne z]; exact K4 j (by omega), up_eq rfl rfl⟩ n2 n3 (by omega) (by rw [updN_ne (by omega)]; exact hfr) ho
        exact ⟨h', dn', fn', qn', ds', n', fin.trans a1, a2, a3, a4, a5, fun p j p1 p2 p3 p4 => by rw [a6 p j p1 p2 p3 p4, up_ne (by omega), up_ne (by omega), up_ne (by omega), up_ne (by omega)]⟩
    · rw [bi_f hk] at em
      obtain ⟨h', dn', fn', qn', ds', n', a1, a2, a3, a4, a5, a6⟩ := ih (m + 1) h dn fn qn ds n fr (by omega) KHh H (fun m' h1 h2 h3 => by
        by_cases z : m' = m
        · rw [z, ← hfr] at h3; exact absurd h3 hk
        · exact M m' (by omega) h2 h3) hi hfr ho
      refine ⟨h', dn', fn', qn', ds', n', ?_, a2, a3, a4, a5, a6⟩
      rw [ggR_fewest_8]
      simp -implicitDefEqProofs (disch := (first | omega | assumption | exact am_isS_3 | exact am_isS_25 | exact am_isX_356 | exact am_isX_359)) only [ggR_fewest_0, ggR_fewest_2, ggR_fewest_3, ggR_fewest_5, ggR_fewest_6, ggR_fewest_7, ggR_fewest_9, ggR_fewest_10, ggR_fewest_11, ggR_fewest_12, ggR_fewest_13, ggR_fewest_14, ggR_fewest_16, ggR_fewest_18, ggR_fewest_19, ggR_fewest_20, ggR_fewest_21, ggR_fewest_22, ggR_fewest_23, ggR_fewest_24, ggR_fewest_25, ggR_fewest_26, ggR_fewest_27, ggR_fewest_28, ggR_fewest_29, ggR_fewest_30, ggR_fewest_31, ccR_fewest_3_2, ccR_fewest_3_1, ccR_fewest_5_1, ccR_fewest_9_1, ccR_fewest_13_1, ccR_fewest_18_1, em, am_kI_x, am_kV_x, am_kI_i, am_nI_i, am_kV_i, am_nV_i, ↓reduceIte, eq_self, if_true, if_false, c_in, c_tn, pn_add, pn_mul, pn_subc, pn_addm, c_le_t, c_le_f, c_lt_t, c_lt_f, c_eq_f, c_eqm, bi_z, bi_1, bi_b, bi_T, bi_F, ite_not, up_eq, up_ne, or_self, or_true, true_or, or_false, false_or, and_true, true_and, and_self, not_true_eq_false, not_false_eq_true, Bool.false_eq_true]
      exact a1
theorem few_4 {s : Nat} (hs : s < 1024) (x1 x2 : Int32) (d : Nat) : ∀ (k i : Nat) (h : am_H) (dn fn qn : Nat → Nat) (ds : Nat → Bool) (n : Nat) (v4 v5 : Value), i + k = 1025 → QH h s dn fn qn ds n → QI s dn fn qn ds n i → ∃ h' dn' fn' qn' ds' n' i' j' w4 w5, am_go (am_cl (d + 4)) qR_fewest 4 [.ref 373, .int x1, .int x2, .int (Int32.ofNat i), v4, v5, .null] [] h = am_go (am_cl (d + 4)) qR_fewest 16 [.ref 373, .int x1, .int x2, .int j', w4, w5, .null] [] h' ∧ h'.1 = h.1 ∧ QH h' s dn' fn' qn' ds' n' ∧ QI s dn' fn' qn' ds' n' i' ∧ n' ≤ i' ∧ n' ≤ 1024 ∧ (∀ p j, p ≠ 382 → p ≠ 383 → p ≠ 384 → (p ≠ 373 ∨ j ≠ 21) → h'.2 p j = h.2 p j) := by
  intro k
  induction k with
  | zero =>
    intro i h dn fn qn ds n v4 v5 hi KHh H
    have cn : n ≤ 1024 := by rw [← H.2.1]; exact cnt_le _
    have K5 := KHh.2.2.2.2
    refine ⟨h, dn, fn, qn, ds, n, i, (Int32.ofNat i), v4, v5, ?_, rfl, KHh, H, by omega, cn, fun _ _ _ _ _ _ => rfl⟩
    rw [ggR_fewest_4]
    simp -implicitDefEqProofs (disch := (first | omega | assumption | exact am_isS_3 | exact am_isS_25 | exact am_isX_356 | exact am_isX_359)) only [ggR_fewest_0, ggR_fewest_2, ggR_fewest_3, ggR_fewest_5, ggR_fewest_6, ggR_fewest_7, ggR_fewest_9, ggR_fewest_10, ggR_fewest_11, ggR_fewest_12, ggR_fewest_13, ggR_fewest_14, ggR_fewest_18, ggR_fewest_19, ggR_fewest_20, ggR_fewest_21, ggR_fewest_22, ggR_fewest_23, ggR_fewest_24, ggR_fewest_25, ggR_fewest_26, ggR_fewest_27, ggR_fewest_28, ggR_fewest_29, ggR_fewest_30, ggR_fewest_31, ccR_fewest_3_2, ccR_fewest_3_1, ccR_fewest_5_1, ccR_fewest_9_1, ccR_fewest_13_1, ccR_fewest_18_1, K5, am_kI_x, am_kV_x, am_kI_i, am_nI_i, am_kV_i, am_nV_i, ↓reduceIte, eq_self, if_true, if_false, c_in, c_tn, pn_add, pn_mul, pn_subc, pn_addm, c_le_t, c_le_f, c_lt_t, c_lt_f, c_eq_f, c_eqm, bi_z, bi_1, bi_b, bi_T, bi_F, ite_not, up_eq, up_ne, or_self, or_true, true_or, or_false, false_or, and_true, true_and, and_self, not_true_eq_false, not_false_eq_true, Bool.false_eq_true]
  | succ k ih =>
    intro i h dn fn qn ds n v4 v5 hi KHh H
    have cn : n ≤ 1024 := by rw [← H.2.1]; exact cnt_le _
    obtain ⟨K1, K2, K3, K4, K5⟩ := id KHh
    by_cases hin : i < n
    · have eq := K4 i hin
      obtain ⟨i1, i2, i3⟩ := H.1 i hin
      have eo := fun d => rR_isUndone i1 d h
      by_cases ho : kout (qn i) = true
      · rw [bi_t ho] at eo
        obtain ⟨h', dn', fn', qn', ds', n', i', j', w4, w5, b1, b2, b3, b4, b5, b6, b7⟩ := ih (i + 1) h dn fn qn ds n (.int (Int32.ofNat (qn i))) v5 (by omega) KHh (QI_next H (Or.inl ho) hin)
        refine ⟨h', dn', fn', qn', ds', n', i', j', w4, w5, ?_, b2, b3, b4, b5, b6, b7⟩
        rw [ggR_fewest_4]
        simp -implicitDefEqProofs (disch := (first | omega | assumption | exact am_isS_3 | exact am_isS_25 | exact am_isX_356 | exact am_isX_359)) only [ggR_fewest_0, ggR_fewest_2, ggR_fewest_3, ggR_fewest_5, ggR_fewest_6, ggR_fewest_7, ggR_fewest_9, ggR_fewest_10, ggR_fewest_11, ggR_fewest_12, ggR_fewest_13, ggR_fewest_14, ggR_fewest_15, ggR_fewest_18, ggR_fewest_19, ggR_fewest_20, ggR_fewest_21, ggR_fewest_22, ggR_fewest_23, ggR_fewest_24, ggR_fewest_25, ggR_fewest_26, ggR_fewest_27, ggR_fewest_28, ggR_fewest_29, ggR_fewest_30, ggR_fewest_31, ccR_fewest_3_2, ccR_fewest_3_1, ccR_fewest_5_1, ccR_fewest_9_1, ccR_fewest_13_1, ccR_fewest_18_1, K5, eq, eo, am_kI_x, am_kV_x, am_kI_i, am_nI_i, am_kV_i, am_nV_i, ↓reduceIte, eq_self, if_true, if_false, c_in, c_tn, pn_add, pn_mul, pn_subc, pn_addm, c_le_t, c_le_f, c_lt_t, c_lt_f, c_eq_f, c_eqm, bi_z, bi_1, bi_b, bi_T, bi_F, ite_not, up_eq, up_ne, or_self, or_true, true_or, or_false, false_or, and_true, true_and, and_self, not_true_eq_false, not_false_eq_true, Bool.false_eq_true]
        exact b1
      · rw [bi_f ho] at eo
        obtain ⟨h1, dn1, fn1, qn1, ds1, n1, a1, a2, a3, a4, a5, a6⟩ := few_8 hs x1 x2 d 10 0 h dn fn qn ds n (qn i) (by omega) KHh H (fun m' h1 => by omega) hin rfl ho
        obtain ⟨h', dn', fn', qn', ds', n', i', j', w4, w5, b1, b2, b3, b4, b5, b6, b7⟩ := ih (i + 1) h1 dn1 fn1 qn1 ds1 n1 (.int (Int32.ofNat (qn i))) (.int (Int32.ofNat 10)) (by omega) a3 a4
        refine ⟨h', dn', fn', qn', ds', n', i', j', w4, w5, ?_, b2.trans a2, b3, b4, b5, b6, fun p j p1 p2 p3 p4 => by rw [b7 p j p1 p2 p3 p4, a6 p j p1 p2 p3 p4]⟩
        rw [ggR_fewest_4]
        simp -implicitDefEqProofs (disch := (first | omega | assumption | exact am_isS_3 | exact am_isS_25 | exact am_isX_356 | exact am_isX_359)) only [ggR_fewest_0, ggR_fewest_2, ggR_fewest_3, ggR_fewest_5, ggR_fewest_6, ggR_fewest_7, ggR_fewest_9, ggR_fewest_10, ggR_fewest_11, ggR_fewest_12, ggR_fewest_13, ggR_fewest_14, ggR_fewest_18, ggR_fewest_19, ggR_fewest_20, ggR_fewest_21, ggR_fewest_22, ggR_fewest_23, ggR_fewest_24, ggR_fewest_25, ggR_fewest_26, ggR_fewest_27, ggR_fewest_28, ggR_fewest_29, ggR_fewest_30, ggR_fewest_31, ccR_fewest_3_2, ccR_fewest_3_1, ccR_fewest_5_1, ccR_fewest_9_1, ccR_fewest_13_1, ccR_fewest_18_1, K5, eq, eo, am_kI_x, am_kV_x, am_kI_i, am_nI_i, am_kV_i, am_nV_i, ↓reduceIte, eq_self, if_true, if_false, c_in, c_tn, pn_add, pn_mul, pn_subc, pn_addm, c_le_t, c_le_f, c_lt_t, c_lt_f, c_eq_f, c_eqm, bi_z, bi_1, bi_b, bi_T, bi_F, ite_not, up_eq, up_ne, or_self, or_true, true_or, or_false, false_or, and_true, true_and, and_self, not_true_eq_false, not_false_eq_true, Bool.false_eq_true]
        refine a1.trans ?_
        simp -implicitDefEqProofs (disch := (first | omega | assumption | exact am_isS_3 | exact am_isS_25 | exact am_isX_356 | exact am_isX_359)) only [ggR_fewest_0, ggR_fewest_2, ggR_fewest_3, ggR_fewest_5, ggR_fewest_6, ggR_fewest_7, ggR_fewest_9, ggR_fewest_10, ggR_fewest_11, ggR_fewest_12, ggR_fewest_13, ggR_fewest_14, ggR_fewest_15, ggR_fewest_18, ggR_fewest_19, ggR_fewest_20, ggR_fewest_21, ggR_fewest_22, ggR_fewest_23, ggR_fewest_24, ggR_fewest_25, ggR_fewest_26, ggR_fewest_27, ggR_fewest_28, ggR_fewest_29, ggR_fewest_30, ggR_fewest_31, ccR_fewest_3_2, ccR_fewest_3_1, ccR_fewest_5_1, ccR_fewest_9_1, ccR_fewest_13_1, ccR_fewest_18_1, am_kI_x, am_kV_x, am_kI_i, am_nI_i, am_kV_i, am_nV_i, ↓reduceIte, eq_self, if_true, if_false, c_in, c_tn, pn_add, pn_mul, pn_subc, pn_addm, c_le_t, c_le_f, c_lt_t, c_lt_f, c_eq_f, c_eqm, bi_z, bi_1, bi_b, bi_T, bi_F, ite_not, up_eq, up_ne, or_self, or_true, true_or, or_false, false_or, and_true, true_and, and_self, not_true_eq_false, not_false_eq_true, Bool.false_eq_true]
        exact b1
    · refine ⟨h, dn, fn, qn, ds, n, i, (Int32.ofNat i), v4, v5, ?_, rfl, KHh, H, by omega, cn, fun _ _ _ _ _ _ => rfl⟩
      rw [ggR_fewest_4]
      simp -implicitDefEqProofs (disch := (first | omega | assumption | exact am_isS_3 | exact am_isS_25 | exact am_isX_356 | exact am_isX_359)) only [ggR_fewest_0, ggR_fewest_2, ggR_fewest_3, ggR_fewest_5, ggR_fewest_6, ggR_fewest_7, ggR_fewest_9, ggR_fewest_10, ggR_fewest_11, ggR_fewest_12, ggR_fewest_13, ggR_fewest_14, ggR_fewest_18, ggR_fewest_19, ggR_fewest_20, ggR_fewest_21, ggR_fewest_22, ggR_fewest_23, ggR_fewest_24, ggR_fewest_25, ggR_fewest_26, ggR_fewest_27, ggR_fewest_28, ggR_fewest_29, ggR_fewest_30, ggR_fewest_31, ccR_fewest_3_2, ccR_fewest_3_1, ccR_fewest_5_1, ccR_fewest_9_1, ccR_fewest_13_1, ccR_fewest_18_1, K5, am_kI_x, am_kV_x, am_kI_i, am_nI_i, am_kV_i, am_nV_i, ↓reduceIte, eq_self, if_true, if_false, c_in, c_tn, pn_add, pn_mul, pn_subc, pn_addm, c_le_t, c_le_f, c_lt_t, c_lt_f, c_eq_f, c_eqm, bi_z, bi_1, bi_b, bi_T, bi_F, ite_not, up_eq, up_ne, or_self, or_true, true_or, or_false, false_or, and_true, true_and, and_self, not_true_eq_false, not_false_eq_true, Bool.false_eq_true]
/-- the best of those ahead of k -/
def bestQ (dn fn qn : Nat → Nat) (k L B : Nat) : Prop := (L = 1000000 ∧ B = 1000000 ∧ ∀ j, j < k → ¬ kout (qn j) = true) ∨ ∃ j, j < k ∧ kout (qn j) = true ∧ dn (qn j) = L ∧ fn (qn j) = B ∧ ∀ j', j' < k → kout (qn j') = true → L ≤ dn (qn j') ∧ (dn (qn j') = L → B ≤ fn (qn j'))
theorem few_17 {s : Nat} (hs : s < 1024) (hso : ¬ kout s = true) {h : am_H} {dn fn qn : Nat → Nat} {ds : Nat → Bool} {n i : Nat} (KHh : QH h s dn fn qn ds n) (H : QI s dn fn qn ds n i) (x1 x2 : Int32) (d : Nat) : ∀ (k j L B : Nat) (v6 : Value), j + k = n → bestQ dn fn qn j L B → ∃ L' B' w6, am_go (am_cl (d + 4)) qR_fewest 17 [.ref 373, .int x1, .int x2, .int (Int32.ofNat L), .int (Int32.ofNat B), .int (Int32.ofNat j), v6] [] h = am_go (am_cl (d + 4)) qR_fewest 26 [.ref 373, .int x1, .int x2, .int (Int32.ofNat L'), .int (Int32.ofNat B'), .int (Int32.ofNat n), w6] [] h ∧ bestQ dn fn qn n L' B' := by
  intro k
  obtain ⟨K1, K2, K3, K4, K5⟩ := id KHh
  have cn : n ≤ 1024 := by rw [← H.2.1]; exact cnt_le _
  induction k with
  | zero =>
    intro j L B v6 hj hb
    have hj : j = n := by omega
    subst hj
    refine ⟨L, B, v6, ?_, hb⟩
    rw [ggR_fewest_17]
    simp -implicitDefEqProofs (disch := (first | omega | assumption | exact am_isS_3 | exact am_isS_25 | exact am_isX_356 | exact am_isX_359)) only [ggR_fewest_0, ggR_fewest_2, ggR_fewest_3, ggR_fewest_5, ggR_fewest_6, ggR_fewest_7, ggR_fewest_9, ggR_fewest_10, ggR_fewest_11, ggR_fewest_12, ggR_fewest_13, ggR_fewest_14, ggR_fewest_15, ggR_fewest_16, ggR_fewest_18, ggR_fewest_19, ggR_fewest_20, ggR_fewest_21, ggR_fewest_22, ggR_fewest_23, ggR_fewest_24, ggR_fewest_25, ggR_fewest_27, ggR_fewest_28, ggR_fewest_29, ggR_fewest_30, ggR_fewest_31, ccR_fewest_3_2, ccR_fewest_3_1, ccR_fewest_5_1, ccR_fewest_9_1, ccR_fewest_13_1, ccR_fewest_18_1, K5, am_kI_x, am_kV_x, am_kI_i, am_nI_i, am_kV_i, am_nV_i, ↓reduceIte, eq_self, if_true, if_false, c_in, c_tn, pn_add, pn_mul, pn_subc, pn_addm, c_le_t, c_le_f, c_lt_t, c_lt_f, c_eq_f, c_eqm, bi_z, bi_1, bi_b, bi_T, bi_F, ite_not, up_eq, up_ne, or_self, or_true, true_or, or_false, false_or, and_true, true_and, and_self, not_true_eq_false, not_false_eq_true, Bool.false_eq_true]
  | succ k ih =>
    intro j L B v6 hj hb
    have hjn : j < n := by omega
    have eq := K4 j hjn
    obtain ⟨j1, j2, j3⟩ := H.1 j hjn
    have eo := fun d => rR_isUndone j1 d h
    by_cases ho : kout (qn j) = true
    · rw [bi_t ho] at eo
      have e1 := K1 _ j1
      rw [if_pos j2] at e1
      have hns : qn j ≠ s := fun z => hso (by rw [← z]; exact ho)
      have e2 := K2 _ j1 j2 hns
      have fb := (RP_lt hs _ _ _ (H.2.2.2.2.2.1 _ j1 j2 hns)).2.1
      have Lb : L ≤ 1000000 ∧ B ≤ 1000000 := by
        rcases hb with ⟨a, b, -⟩ | ⟨j0, c1, c2, c3, c4, -⟩
        · omega
        · obtain ⟨t1, t2, t3⟩ := H.1 j0 (by omega)
          have hns0 : qn j0 ≠ s := fun z => hso (by rw [← z]; exact c2)
          have := (RP_lt hs _ _ _ (H.2.2.2.2.2.1 _ t1 t2 hns0)).2.1
          omega
      by_cases q1 : L < dn (qn j)
      · obtain ⟨L', B', w6, a, b⟩ := ih (j + 1) L B (.int (Int32.ofNat (qn j))) (by omega) (by
          rcases hb with ⟨a, b, c⟩ | ⟨j0, c1, c2, c3, c4, c5⟩
          · omega
          · refine Or.inr ⟨j0, by omega, c2, c3, c4, fun j' h1 h2 => ?_⟩
            by_cases z : j' = j
            · rw [z]; exact ⟨by omega, fun q => by omega⟩
            · exact c5 j' (by omega) h2)
        refine ⟨L', B', w6, ?_, b⟩
        rw [ggR_fewest_17]
        simp -implicitDefEqProofs (disch := (first | omega | assumption | exact am_isS_3 | exact am_isS_25 | exact am_isX_356 | exact am_isX_359)) only [ggR_fewest_0, ggR_fewest_2, ggR_fewest_3, ggR_fewest_5, ggR_fewest_6, ggR_fewest_7, ggR_fewest_9, ggR_fewest_10, ggR_fewest_11, ggR_fewest_12, ggR_fewest_13, ggR_fewest_14, ggR_fewest_15, ggR_fewest_16, ggR_fewest_18, ggR_fewest_19, ggR_fewest_20, ggR_fewest_21, ggR_fewest_22, ggR_fewest_23, ggR_fewest_24, ggR_fewest_25, ggR_fewest_27, ggR_fewest_28, ggR_fewest_29, ggR_fewest_30, ggR_fewest_31, ccR_fewest_3_2, ccR_fewest_3_1, ccR_fewest_5_1, ccR_fewest_9_1, ccR_fewest_13_1, ccR_fewest_18_1, K5, eq, eo, e1, am_kI_x, am_kV_x, am_kI_i, am_nI_i, am_kV_i, am_nV_i, ↓reduceIte, eq_self, if_true, if_false, c_in, c_tn, pn_add, pn_mul, pn_subc, pn_addm, c_le_t, c_le_f, c_lt_t, c_lt_f, c_eq_f, c_eqm, bi_z, bi_1, bi_b, bi_T, bi_F, ite_not, up_eq, up_ne, or_self, or_true, true_or, or_false, false_or, and_true, true_and, and_self, not_true_eq_false, not_false_eq_true, Bool.false_eq_true]
        exact a
      · by_cases q2 : dn (qn j) < L
        · obtain ⟨L', B', w6, a, b⟩ := ih (j + 1) (dn (qn j)) (fn (qn j)) (.int (Int32.ofNat (qn j))) (by omega) (Or.inr ⟨j, by omega, ho, rfl, rfl, fun j' h1 h2 => by
            by_cases z : j' = j
            · rw [z]; exact ⟨Nat.le_refl _, fun _ => Nat.le_refl _⟩
            · rcases hb with ⟨a, b, c⟩ | ⟨j0, c1, c2, c3, c4, c5⟩
              · exact absurd h2 (c j' (by omega))
              · have := (c5 j' (by omega) h2).1
                exact ⟨by omega, fun q => by omega⟩⟩)
          refine ⟨L', B', w6, ?_, b⟩
          rw [ggR_fewest_17]
          simp -implicitDefEqProofs (disch := (first | omega | assumption | exact am_isS_3 | exact am_isS_25 | exact am_isX_356 | exact am_isX_359)) only [ggR_fewest_0, ggR_fewest_2, ggR_fewest_3, ggR_fewest_5, ggR_fewest_6, ggR_fewest_7, ggR_fewest_9, ggR_fewest_10, ggR_fewest_11, ggR_fewest_12, ggR_fewest_13, ggR_fewest_14, ggR_fewest_15, ggR_fewest_16, ggR_fewest_18, ggR_fewest_19, ggR_fewest_20, ggR_fewest_21, ggR_fewest_22, ggR_fewest_23, ggR_fewest_24, ggR_fewest_25, ggR_fewest_27, ggR_fewest_28, ggR_fewest_29, ggR_fewest_30, ggR_fewest_31, ccR_fewest_3_2, ccR_fewest_3_1, ccR_fewest_5_1, ccR_fewest_9_1, ccR_fewest_13_1, ccR_fewest_18_1, K5, eq, eo, e1, e2, am_kI_x, am_kV_x, am_kI_i, am_nI_i, am_kV_i, am_nV_i, ↓reduceIte, eq_self, if_true, if_false, c_in, c_tn, pn_add, pn_mul, pn_subc, pn_addm, c_le_t, c_le_f, c_lt_t, c_lt_f, c_eq_f, c_eqm, bi_z, bi_1, bi_b, bi_T, bi_F, ite_not, up_eq, up_ne, or_self, or_true, true_or, or_false, false_or, and_true, true_and, and_self, not_true_eq_false, not_false_eq_true, Bool.false_eq_true]
          exact a
        · have q3 : dn (qn j) = L := by omega
          obtain ⟨L', B', w6, a, b⟩ := ih (j + 1) L (min B (fn (qn j))) (.int (Int32.ofNat (qn j))) (by omega) (by
            rcases hb with ⟨a, b, c⟩ | ⟨j0, c1, c2, c3, c4, c5⟩
            · omega
            · by_cases w : B ≤ fn (qn j)
              · rw [Nat.min_eq_left w]
                refine Or.inr ⟨j0, by omega, c2, c3, c4, fun j' h1 h2 => ?_⟩
                by_cases z : j' = j
                · rw [z]; exact ⟨by omega, fun _ => w⟩
                · exact c5 j' (by omega) h2
              · rw [Nat.min_eq_right (by omega)]
                refine Or.inr ⟨j, by omega, ho, q3, rfl, fun j' h1 h2 => ?_⟩
                by_cases z : j' = j
                · rw [z]; exact ⟨by omega, fun _ => Nat.le_refl _⟩
                · obtain ⟨u1, u2⟩ := c5 j' (by omega) h2
                  exact ⟨u1, fun q => by have := u2 q; omega⟩)
          refine ⟨L', B', w6, ?_, b⟩
          rw [q3] at e1
          rw [ggR_fewest_17]
          simp -implicitDefEqProofs (disch := (first | omega | assumption | exact am_isS_3 | exact am_isS_25 | exact am_isX_356 | exact am_isX_359)) only [ggR_fewest_0, ggR_fewest_2, ggR_fewest_3, ggR_fewest_5, ggR_fewest_6, ggR_fewest_7, ggR_fewest_9, ggR_fewest_10, ggR_fewest_11, ggR_fewest_12, ggR_fewest_13, ggR_fewest_14, ggR_fewest_15, ggR_fewest_16, ggR_fewest_18, ggR_fewest_19, ggR_fewest_20, ggR_fewest_21, ggR_fewest_22, ggR_fewest_23, ggR_fewest_24, ggR_fewest_25, ggR_fewest_27, ggR_fewest_28, ggR_fewest_29, ggR_fewest_30, ggR_fewest_31, ccR_fewest_3_2, ccR_fewest_3_1, ccR_fewest_5_1, ccR_fewest_9_1, ccR_fewest_13_1, ccR_fewest_18_1, K5, eq, eo, e1, e2, pn_min, am_kI_x, am_kV_x, am_kI_i, am_nI_i, am_kV_i, am_nV_i, ↓reduceIte, eq_self, if_true, if_false, c_in, c_tn, pn_add, pn_mul, pn_subc, pn_addm, c_le_t, c_le_f, c_lt_t, c_lt_f, c_eq_f, c_eqm, bi_z, bi_1, bi_b, bi_T, bi_F, ite_not, up_eq, up_ne, or_self, or_true, true_or, or_false, false_or, and_true, true_and, and_self, not_true_eq_false, not_false_eq_true, Bool.false_eq_true]
          exact a
    · rw [bi_f ho] at eo
      obtain ⟨L', B', w6, a, b⟩ := ih (j + 1) L B (.int (Int32.ofNat (qn j))) (by omega) (by
        rcases hb with ⟨a, b, c⟩ | ⟨j0, c1, c2, c3, c4, c5⟩
        · refine Or.inl ⟨a, b, fun j' h1 => ?_⟩
          by_cases z : j' = j
          · rw [z]; exact ho
          · exact c j' (by omega)
        · refine Or.inr ⟨j0, by omega, c2, c3, c4, fun j' h1 h2 => ?_⟩
          by_cases z : j' = j
          · rw [z] at h2; exact absurd h2 ho
          · exact c5 j' (by omega) h2)
      refine ⟨L', B', w6, ?_, b⟩
      rw [ggR_fewest_17]
      simp -implicitDefEqProofs (disch := (first | omega | assumption | exact am_isS_3 | exact am_isS_25 | exact am_isX_356 | exact am_isX_359)) only [ggR_fewest_0, ggR_fewest_2, ggR_fewest_3, ggR_fewest_5, ggR_fewest_6, ggR_fewest_7, ggR_fewest_9, ggR_fewest_10, ggR_fewest_11, ggR_fewest_12, ggR_fewest_13, ggR_fewest_14, ggR_fewest_15, ggR_fewest_16, ggR_fewest_18, ggR_fewest_19, ggR_fewest_20, ggR_fewest_21, ggR_fewest_22, ggR_fewest_23, ggR_fewest_24, ggR_fewest_25, ggR_fewest_27, ggR_fewest_28, ggR_fewest_29, ggR_fewest_30, ggR_fewest_31, ccR_fewest_3_2, ccR_fewest_3_1, ccR_fewest_5_1, ccR_fewest_9_1, ccR_fewest_13_1, ccR_fewest_18_1, K5, eq, eo, am_kI_x, am_kV_x, am_kI_i, am_nI_i, am_kV_i, am_nV_i, ↓reduceIte, eq_self, if_true, if_false, c_in, c_tn, pn_add, pn_mul, pn_subc, pn_addm, c_le_t, c_le_f, c_lt_t, c_lt_f, c_eq_f, c_eqm, bi_z, bi_1, bi_b, bi_T, bi_F, ite_not, up_eq, up_ne, or_self, or_true, true_or, or_false, false_or, and_true, true_and, and_self, not_true_eq_false, not_false_eq_true, Bool.false_eq_true]
      exact a
theorem few_1 (d : Nat) (x1 x2 : Int32) : ∀ (k c : Nat) (h : am_H), c + k = 1024 → (∀ p, p < c → h.2 382 p = -1) → ∃ h', am_go (am_cl d) qR_fewest 1 [.ref 373, .int x1, .int x2, .int (Int32.ofNat c), .null, .null, .null] [] h = am_go (am_cl d) qR_fewest 3 [.ref 373, .int x1, .int x2, .int (Int32.ofNat 1024), .null, .null, .null] [] h' ∧ h'.1 = h.1 ∧ (∀ p, p < 1024 → h'.2 382 p = -1) ∧ ∀ p, p ≠ 382 → h'.2 p = h.2 p := by
  intro k
  induction k with
  | zero =>
    intro c h hc e
    have hc : c = 1024 := by omega
    subst hc
    refine ⟨h, ?_, rfl, e, fun _ _ => rfl⟩
    rw [ggR_fewest_1]
    simp -implicitDefEqProofs (disch := (first | omega | assumption | exact am_isS_3 | exact am_isS_25 | exact am_isX_356 | exact am_isX_359)) only [ggR_fewest_0, ggR_fewest_2, ggR_fewest_5, ggR_fewest_6, ggR_fewest_7, ggR_fewest_9, ggR_fewest_10, ggR_fewest_11, ggR_fewest_12, ggR_fewest_13, ggR_fewest_14, ggR_fewest_15, ggR_fewest_16, ggR_fewest_18, ggR_fewest_19, ggR_fewest_20, ggR_fewest_21, ggR_fewest_22, ggR_fewest_23, ggR_fewest_24, ggR_fewest_25, ggR_fewest_26, ggR_fewest_27, ggR_fewest_28, ggR_fewest_29, ggR_fewest_30, ggR_fewest_31, ccR_fewest_3_2, ccR_fewest_3_1, ccR_fewest_5_1, ccR_fewest_9_1, ccR_fewest_13_1, ccR_fewest_18_1, am_kI_x, am_kV_x, am_kI_i, am_nI_i, am_kV_i, am_nV_i, ↓reduceIte, eq_self, if_true, if_false, c_in, c_tn, pn_add, pn_mul, pn_subc, pn_addm, c_le_t, c_le_f, c_lt_t, c_lt_f, c_eq_f, c_eqm, bi_z, bi_1, bi_b, bi_T, bi_F, ite_not, up_eq, up_ne, or_self, or_true, true_or, or_false, false_or, and_true, true_and, and_self, not_true_eq_false, not_false_eq_true, Bool.false_eq_true]
  | succ k ih =>
    intro c h hc e
    obtain ⟨h', a, b, e', f⟩ := ih (c + 1) (am_up h 382 c (-1)) (by omega) (fun p hp => by
      by_cases z : p = c
      · rw [z, up_eq rfl rfl]
      · rw [up_ne (by omega)]; exact e p (by omega))
    refine ⟨h', ?_, b, e', fun p hp => by rw [f p hp, up_o hp]⟩
    rw [ggR_fewest_1]
    simp -implicitDefEqProofs (disch := (first | omega | assumption | exact am_isS_3 | exact am_isS_25 | exact am_isX_356 | exact am_isX_359)) only [ggR_fewest_0, ggR_fewest_2, ggR_fewest_5, ggR_fewest_6, ggR_fewest_7, ggR_fewest_9, ggR_fewest_10, ggR_fewest_11, ggR_fewest_12, ggR_fewest_13, ggR_fewest_14, ggR_fewest_15, ggR_fewest_16, ggR_fewest_18, ggR_fewest_19, ggR_fewest_20, ggR_fewest_21, ggR_fewest_22, ggR_fewest_23, ggR_fewest_24, ggR_fewest_25, ggR_fewest_26, ggR_fewest_27, ggR_fewest_28, ggR_fewest_29, ggR_fewest_30, ggR_fewest_31, ccR_fewest_3_2, ccR_fewest_3_1, ccR_fewest_5_1, ccR_fewest_9_1, ccR_fewest_13_1, ccR_fewest_18_1, am_kI_x, am_kV_x, am_kI_i, am_nI_i, am_kV_i, am_nV_i, ↓reduceIte, eq_self, if_true, if_false, c_in, c_tn, pn_add, pn_mul, pn_subc, pn_addm, c_le_t, c_le_f, c_lt_t, c_lt_f, c_eq_f, c_eqm, bi_z, bi_1, bi_b, bi_T, bi_F, ite_not, up_eq, up_ne, or_self, or_true, true_or, or_false, false_or, and_true, true_and, and_self, not_true_eq_false, not_false_eq_true, Bool.false_eq_true]
    exact a
theorem cnt_one {s N : Nat} (hs : s < N) : cnt (fun p => decide (p = s)) N = 1 := by
  have h0 : ∀ n, cnt (fun _ => false) n = 0 := by
    intro n
    induction n with
    | zero => rfl
    | succ n ih => rw [cnt_S, ih]; rfl
  have := cnt_set (p := fun _ => false) (q := fun y => decide (y = s)) (c := s) rfl (decide_eq_true rfl) (N := N) (fun j _ hj => decide_eq_false hj) hs
  rw [h0] at this
  exact this
theorem rR_fewest {h : am_H} {c s : Nat} (hs : s < 1024) (hso : ¬ kout s = true) (hst : ∀ h' : am_H, h'.2 374 = h.2 374 → ∀ d, am_cl (d + 4) qR_stateOf [.ref 373, .int (Int32.ofNat c)] h' = some (.inl (some ((Int32.ofNat s))), h')) (y : Int32) (d : Nat) : ∃ h', am_cl (d + 5) qR_fewest [.ref 373, .int (Int32.ofNat c), .int y] h = some (.inl (some (if y = (Int32.ofNat 0) then kdist s else lfN s)), h') ∧ h'.1 = h.1 ∧ ∀ p j, p ≠ 382 → p ≠ 383 → p ≠ 384 → (p ≠ 373 ∨ j ≠ 21) → h'.2 p j = h.2 p j := by
  obtain ⟨h1, a1, a2, a3, a4⟩ := few_1 (d + 4) (Int32.ofNat c) y 1024 0 h (by omega) (fun p hp => by omega)
  have es := hst (am_up h1 373 21 (Int32.ofNat 0)) (by rw [up_o (by omega), a4 374 (by omega)])
  have ef := fun d => rR_finds1 (h := am_up h1 373 21 (Int32.ofNat 0)) (r := s) (n := 0) hs (by omega) (by rw [up_ne (by omega)]; exact a3 s hs) (up_eq rfl rfl) (Int32.ofNat 0) (-1) d
  obtain ⟨h', dn, fn, qn, ds, n, i, j', w4, w5, b1, b2, b3, b4, b5, b6, b7⟩ := few_4 hs (Int32.ofNat c) y d 1025 0 (am_up (am_up (am_up (am_up (am_up h1 373 21 (Int32.ofNat 0)) 382 s (Int32.ofNat 0)) 383 s (-1)) 384 0 (Int32.ofNat s)) 373 21 (Int32.ofNat (0 + 1))) (fun _ => 0) (fun _ => 0) (fun _ => s) (fun p => decide (p = s)) 1 .null .null (by omega) ⟨fun p hp => by
      rw [up_ne (by omega), up_ne (by omega), up_ne (by omega)]
      by_cases z : p = s
      · rw [z, up_eq rfl rfl, if_pos (decide_eq_true rfl)]
      · rw [up_ne (by omega), up_ne (by omega), if_neg (by show ¬ decide (p = s) = true; rw [decide_eq_false z]; decide)]; exact a3 p hp, fun p hp hd hps => absurd (of_decide_eq_true hd) hps, by rw [up_ne (by omega), up_ne (by omega)]; exact up_eq rfl rfl, fun j hj => by rw [up_ne (by omega), show j = 0 by omega]; exact up_eq rfl rfl, up_eq rfl rfl⟩ ⟨fun j hj => ⟨hs, decide_eq_true rfl, Nat.zero_le _⟩, cnt_one hs, fun p hp hd => ⟨0, by omega, (of_decide_eq_true hd).symm⟩, fun _ _ _ _ => Nat.le_refl _, ⟨Nat.le_refl _, decide_eq_true rfl, rfl⟩, fun p hp hd hps => absurd (of_decide_eq_true hd) hps, fun j hj => by omega, fun _ _ _ => Nat.zero_le _⟩
  obtain ⟨L, B, w6, c1, c2⟩ := few_17 hs hso b3 b4 (Int32.ofNat c) y d n 0 1000000 1000000 .null (by omega) (Or.inl ⟨rfl, rfl, fun j hj => by omega⟩)
  have fin : am_go (am_cl (d + 4)) qR_fewest 26 [.ref 373, .int (Int32.ofNat c), .int y, .int (Int32.ofNat L), .int (Int32.ofNat B), .int (Int32.ofNat n), w6] [] h' = some (.inl (some (if y = (Int32.ofNat 0) then kdist s else lfN s)), h') := by
    rcases c2 with ⟨l1, l2, l3⟩ | ⟨j, j1, j2, j3, j4, j5⟩
    · obtain ⟨k1, k2⟩ := far_none hs hso b4 b5 (fun q hq hd ho => by
        obtain ⟨j, j1, j2⟩ := b4.2.2.1 q hq hd
        exact l3 j j1 (by rw [j2]; exact ho))
      rw [k1, k2, l1, l2, ite_self]
      simp -implicitDefEqProofs (disch := (first | omega | assumption | exact am_isS_3 | exact am_isS_25 | exact am_isX_356 | exact am_isX_359)) only [ggR_fewest_0, ggR_fewest_2, ggR_fewest_3, ggR_fewest_5, ggR_fewest_6, ggR_fewest_7, ggR_fewest_9, ggR_fewest_10, ggR_fewest_11, ggR_fewest_12, ggR_fewest_13, ggR_fewest_14, ggR_fewest_15, ggR_fewest_16, ggR_fewest_18, ggR_fewest_19, ggR_fewest_20, ggR_fewest_21, ggR_fewest_22, ggR_fewest_23, ggR_fewest_24, ggR_fewest_25, ggR_fewest_26, ggR_fewest_27, ggR_fewest_28, ggR_fewest_29, ggR_fewest_30, ggR_fewest_31, ccR_fewest_3_2, ccR_fewest_3_1, ccR_fewest_5_1, ccR_fewest_9_1, ccR_fewest_13_1, ccR_fewest_18_1, am_kI_x, am_kV_x, am_kI_i, am_nI_i, am_kV_i, am_nV_i, ↓reduceIte, eq_self, if_true, if_false, c_in, c_tn, pn_add, pn_mul, pn_subc, pn_addm, c_le_t, c_le_f, c_lt_t, c_lt_f, c_eq_f, c_eqm, bi_z, bi_1, bi_b, bi_T, bi_F, ite_not, up_eq, up_ne, or_self, or_true, true_or, or_false, false_or, and_true, true_and, and_self, not_true_eq_false, not_false_eq_true, Bool.false_eq_true]
    · obtain ⟨t1, t2, t3⟩ := b4.1 j j1
      obtain ⟨k1, k2, k3, k4⟩ := far_some hs hso b4 b5 t1 t2 j2 j3 j4 (fun q hq hd ho => by
        obtain ⟨j', u1, u2⟩ := b4.2.2.1 q hq hd
        have := j5 j' u1 (by rw [u2]; exact ho)
        rw [u2] at this
        exact this)
      rw [k1, k2]
      by_cases hy : y = (Int32.ofNat 0)
      · rw [if_pos hy]
        simp -implicitDefEqProofs (disch := (first | omega | assumption | exact am_isS_3 | exact am_isS_25 | exact am_isX_356 | exact am_isX_359)) only [ggR_fewest_0, ggR_fewest_2, ggR_fewest_3, ggR_fewest_5, ggR_fewest_6, ggR_fewest_7, ggR_fewest_9, ggR_fewest_10, ggR_fewest_11, ggR_fewest_12, ggR_fewest_13, ggR_fewest_14, ggR_fewest_15, ggR_fewest_16, ggR_fewest_18, ggR_fewest_19, ggR_fewest_20, ggR_fewest_21, ggR_fewest_22, ggR_fewest_23, ggR_fewest_24, ggR_fewest_25, ggR_fewest_26, ggR_fewest_27, ggR_fewest_28, ggR_fewest_29, ggR_fewest_30, ggR_fewest_31, ccR_fewest_3_2, ccR_fewest_3_1, ccR_fewest_5_1, ccR_fewest_9_1, ccR_fewest_13_1, ccR_fewest_18_1, hy, am_kI_x, am_kV_x, am_kI_i, am_nI_i, am_kV_i, am_nV_i, ↓reduceIte, eq_self, if_true, if_false, c_in, c_tn, pn_add, pn_mul, pn_subc, pn_addm, c_le_t, c_le_f, c_lt_t, c_lt_f, c_eq_f, c_eqm, bi_z, bi_1, bi_b, bi_T, bi_F, ite_not, up_eq, up_ne, or_self, or_true, true_or, or_false, false_or, and_true, true_and, and_self, not_true_eq_false, not_false_eq_true, Bool.false_eq_true]
      · rw [if_neg hy]
        simp -implicitDefEqProofs (disch := (first | omega | assumption | exact am_isS_3 | exact am_isS_25 | exact am_isX_356 | exact am_isX_359)) only [ggR_fewest_0, ggR_fewest_2, ggR_fewest_3, ggR_fewest_5, ggR_fewest_6, ggR_fewest_7, ggR_fewest_9, ggR_fewest_10, ggR_fewest_11, ggR_fewest_12, ggR_fewest_13, ggR_fewest_14, ggR_fewest_15, ggR_fewest_16, ggR_fewest_18, ggR_fewest_19, ggR_fewest_20, ggR_fewest_21, ggR_fewest_22, ggR_fewest_23, ggR_fewest_24, ggR_fewest_25, ggR_fewest_26, ggR_fewest_27, ggR_fewest_28, ggR_fewest_29, ggR_fewest_30, ggR_fewest_31, ccR_fewest_3_2, ccR_fewest_3_1, ccR_fewest_5_1, ccR_fewest_9_1, ccR_fewest_13_1, ccR_fewest_18_1, hy, am_kI_x, am_kV_x, am_kI_i, am_nI_i, am_kV_i, am_nV_i, ↓reduceIte, eq_self, if_true, if_false, c_in, c_tn, pn_add, pn_mul, pn_subc, pn_addm, c_le_t, c_le_f, c_lt_t, c_lt_f, c_eq_f, c_eqm, bi_z, bi_1, bi_b, bi_T, bi_F, ite_not, up_eq, up_ne, or_self, or_true, true_or, or_false, false_or, and_true, true_and, and_self, not_true_eq_false, not_false_eq_true, Bool.false_eq_true]
  refine ⟨h', ?_, b2.trans a2, fun p j p1 p2 p3 p4 => ?_⟩
  · rw [uR_fewest, ggR_fewest_0]
    refine a1.trans ?_
    simp -implicitDefEqProofs (disch := (first | omega | assumption | exact am_isS_3 | exact am_isS_25 | exact am_isX_356 | exact am_isX_359)) only [ggR_fewest_0, ggR_fewest_2, ggR_fewest_3, ggR_fewest_5, ggR_fewest_6, ggR_fewest_7, ggR_fewest_9, ggR_fewest_10, ggR_fewest_11, ggR_fewest_12, ggR_fewest_13, ggR_fewest_14, ggR_fewest_15, ggR_fewest_16, ggR_fewest_18, ggR_fewest_19, ggR_fewest_20, ggR_fewest_21, ggR_fewest_22, ggR_fewest_23, ggR_fewest_24, ggR_fewest_25, ggR_fewest_26, ggR_fewest_27, ggR_fewest_28, ggR_fewest_29, ggR_fewest_30, ggR_fewest_31, ccR_fewest_3_2, ccR_fewest_3_1, ccR_fewest_5_1, ccR_fewest_9_1, ccR_fewest_13_1, ccR_fewest_18_1, es, ef, am_kI_x, am_kV_x, am_kI_i, am_nI_i, am_kV_i, am_nV_i, ↓reduceIte, eq_self, if_true, if_false, c_in, c_tn, pn_add, pn_mul, pn_subc, pn_addm, c_le_t, c_le_f, c_lt_t, c_lt_f, c_eq_f, c_eqm, bi_z, bi_1, bi_b, bi_T, bi_F, ite_not, up_eq, up_ne, or_self, or_true, true_or, or_false, false_or, and_true, true_and, and_self, not_true_eq_false, not_false_eq_true, Bool.false_eq_true]
    refine b1.trans ?_
    simp -implicitDefEqProofs (disch := (first | omega | assumption | exact am_isS_3 | exact am_isS_25 | exact am_isX_356 | exact am_isX_359)) only [ggR_fewest_0, ggR_fewest_2, ggR_fewest_3, ggR_fewest_5, ggR_fewest_6, ggR_fewest_7, ggR_fewest_9, ggR_fewest_10, ggR_fewest_11, ggR_fewest_12, ggR_fewest_13, ggR_fewest_14, ggR_fewest_15, ggR_fewest_16, ggR_fewest_18, ggR_fewest_19, ggR_fewest_20, ggR_fewest_21, ggR_fewest_22, ggR_fewest_23, ggR_fewest_24, ggR_fewest_25, ggR_fewest_26, ggR_fewest_27, ggR_fewest_28, ggR_fewest_29, ggR_fewest_30, ggR_fewest_31, ccR_fewest_3_2, ccR_fewest_3_1, ccR_fewest_5_1, ccR_fewest_9_1, ccR_fewest_13_1, ccR_fewest_18_1, am_kI_x, am_kV_x, am_kI_i, am_nI_i, am_kV_i, am_nV_i, ↓reduceIte, eq_self, if_true, if_false, c_in, c_tn, pn_add, pn_mul, pn_subc, pn_addm, c_le_t, c_le_f, c_lt_t, c_lt_f, c_eq_f, c_eqm, bi_z, bi_1, bi_b, bi_T, bi_F, ite_not, up_eq, up_ne, or_self, or_true, true_or, or_false, false_or, and_true, true_and, and_self, not_true_eq_false, not_false_eq_true, Bool.false_eq_true]
    exact c1.trans fin
  · rw [b7 p j p1 p2 p3 p4, up_ne (by omega), up_ne (by omega), up_ne (by omega), up_ne (by omega), up_ne (by omega), a4 p p1]
theorem J2.kn {hC hC' hR : am_H} (J : J2 hC hR) (f : ∀ p, p < 362 → hC'.2 p = hC.2 p) (e1 : hC'.2 362 2 = (Int32.ofNat 1)) (e2 : ∀ p, p < 1024 → hC'.2 363 p = kdist p) : J2 hC' hR := by
  obtain ⟨⟨N, G, L⟩, a, b, c, e, k⟩ := J
  refine ⟨⟨N, G, L.of (fun p h1 h2 => f p (by omega)) (fun p h1 h2 => f p (by omega)) (fun j _ => rfl)⟩, a.of (by rw [f 1 (by omega)]) (f 2 (by omega)) rfl rfl, by rw [f 0 (by omega)]; exact b, c.of (by rw [f 0 (by omega)]) (fun p h1 h2 => f p (by omega)) (fun p h1 h2 => f p (by omega)) rfl rfl, e.of (f 69 (by omega)) (fun p h1 h2 => f p (by omega)) rfl rfl rfl, ⟨fun i hi => ?_, Or.inr ⟨e1, e2⟩⟩⟩
  show hC'.2 343 i = _ ∨ hC'.2 343 i = _
  rw [f 343 (by omega)]
  exact k.1 i hi
theorem J2.kr {hC hR hR' : am_H} (J : J2 hC hR) (f : ∀ p j, p ≠ 382 → p ≠ 383 → p ≠ 384 → (p ≠ 373 ∨ j ≠ 21) → hR'.2 p j = hR.2 p j) : J2 hC hR' := J.of (fun _ _ _ _ _ _ _ _ => rfl) rfl rfl rfl rfl (fun j _ => f 374 j (by omega) (by omega) (by omega) (by omega)) (by funext j; exact f 375 j (by omega) (by omega) (by omega) (by omega)) (by funext j; exact f 378 j (by omega) (by omega) (by omega) (by omega)) (by funext j; exact f 379 j (by omega) (by omega) (by omega) (by omega)) (fun i hi => f 373 i (by omega) (by omega) (by omega) (by omega))
theorem knot_both {hC hR : am_H} {N G c k : Nat} (L : Lk hC hR 3 N G) (hc : c < N) (hk : k < N) (ek : hR.2 374 (43 + 9 * c + 8) = (Int32.ofNat k)) : ∃ s, s < 1024 ∧ ¬ kout s = true ∧ (∀ d, am_cl (d + 1) qS_pairOf [.ref 3, .int (Int32.ofNat c)] hC = some (.inl (some ((Int32.ofNat s))), hC)) ∧ ∀ h' : am_H, h'.2 374 = hR.2 374 → ∀ d, am_cl (d + 4) qR_stateOf [.ref 373, .int (Int32.ofNat c)] h' = some (.inl (some ((Int32.ofNat s))), h') := by
  obtain ⟨s, t, hs, ht, hs0, ht0, pC, pR⟩ := pair_both L hc hk ek
  refine ⟨s + 32 * t, by omega, ?_, pC, fun h' e d => ?_⟩
  · unfold kout
    rw [decide_eq_false (by omega), decide_eq_false (by omega)]
    decide
  · obtain ⟨s', t', hs', ht', -, -, pC', pR'⟩ := pair_both (L.row e) hc hk (by rw [e]; exact ek)
    have := (pC 0).symm.trans (pC' 0)
    have e2 : ((Int32.ofNat (s + 32 * t)) : Int32) = (Int32.ofNat (s' + 32 * t')) := by injection this with h1; injection h1 with h2 h3; injection h2 with h4; injection h4
    rw [e2]
    exact pR' d
theorem T_moves (x : Int32) : Two qF_moves [.ref 0, .int x] qR_moves [.ref 373, .int x] (am_ctt 12) := by
  intro d hC hR J
  have J0 := J.thr (Int32.ofNat 0)
  obtain ⟨⟨N, G, L⟩, -⟩ := id J0
  obtain ⟨R, okt, okc, okk, RL⟩ := id L
  have hN := R.1
  have r3 := R.2.2.1
  have r4 := R.2.2.2.1
  have r12 := R.2.2.2.2.2.2.2.2.2.2.2.1
  rcases ch_cases hN x with ⟨c, hc, rfl⟩ | ⟨b1, b2⟩
  · have hc8 : c < 8 := by omega
    rcases (okc c hc).2.2.2.2.2.2.2.2 with hk | ⟨k, hk, ek⟩
    · have ep := fun d => sS_pairOf0 am_isS_3 (h := hC) hc8 (by rw [r12 8 c (by omega) hc8]; exact hk) d
      refine ⟨hC, am_up hR 373 0 (Int32.ofNat 0), J0, rfl, Or.inl ⟨-1, rfl, up_eq rfl rfl, ?_, ?_⟩⟩
      · simp -implicitDefEqProofs (disch := (first | omega | assumption | exact am_isS_3 | exact am_isS_25 | exact am_isX_356 | exact am_isX_359)) only [uF_moves, ggF_moves_0, ggF_moves_1, ggF_moves_2, ggF_moves_3, ccF_moves_0_2, ccF_moves_0_1, ccF_moves_2_1, xF_needChild hN r4 hc, ep, am_kI_x, am_kV_x, am_kI_i, am_nI_i, am_kV_i, am_nV_i, ↓reduceIte, eq_self, if_true, if_false, c_in, c_tn, pn_add, pn_mul, pn_subc, pn_addm, c_le_t, c_le_f, c_lt_t, c_lt_f, c_eq_f, c_eqm, bi_z, bi_1, bi_b, bi_T, bi_F, ite_not, up_eq, up_ne, or_self, or_true, true_or, or_false, false_or, and_true, true_and, and_self, not_true_eq_false, not_false_eq_true, Bool.false_eq_true]
      · simp -implicitDefEqProofs (disch := (first | omega | assumption | exact am_isS_3 | exact am_isS_25 | exact am_isX_356 | exact am_isX_359)) only [uR_moves, ggR_moves_0, ggR_moves_1, ggR_moves_2, ggR_moves_3, ggR_moves_4, ggR_moves_5, ccR_moves_0_2, ccR_moves_0_1, ccR_moves_2_1, ccR_moves_3_1, rR_noChild, rR_hasKnot, rR_throwsIf_f, r3, hk, am_kI_x, am_kV_x, am_kI_i, am_nI_i, am_kV_i, am_nV_i, ↓reduceIte, eq_self, if_true, if_false, c_in, c_tn, pn_add, pn_mul, pn_subc, pn_addm, c_le_t, c_le_f, c_lt_t, c_lt_f, c_eq_f, c_eqm, bi_z, bi_1, bi_b, bi_T, bi_F, ite_not, up_eq, up_ne, or_self, or_true, true_or, or_false, false_or, and_true, true_and, and_self, not_true_eq_false, not_false_eq_true, Bool.false_eq_true]
    · obtain ⟨s, hs, hso, pC, pR⟩ := knot_both L hc hk ek
      obtain ⟨h1, a1, a2, a3, a4, a5⟩ := xK_fewest J.2.2.2.2.2 hs (d + 114)
      obtain ⟨h2, f1, f2, f3⟩ := rR_fewest hs hso pR (Int32.ofNat 0) (d + 114)
      rw [if_pos rfl] at f1
      refine ⟨h1, h2, (J0.kn a5 a3 a4).kr f3, f2, Or.inl ⟨kdist s, a2, by rw [f3 373 0 (by omega) (by omega) (by omega) (by omega)]; exact up_eq rfl rfl, ?_, ?_⟩⟩
      · simp -implicitDefEqProofs (disch := (first | omega | assumption | exact am_isS_3 | exact am_isS_25 | exact am_isX_356 | exact am_isX_359)) only [uF_moves, ggF_moves_0, ggF_moves_1, ggF_moves_2, ggF_moves_3, ccF_moves_0_2, ccF_moves_0_1, ccF_moves_2_1, xF_needChild hN r4 hc, pC, a1, am_kI_x, am_kV_x, am_kI_i, am_nI_i, am_kV_i, am_nV_i, ↓reduceIte, eq_self, if_true, if_false, c_in, c_tn, pn_add, pn_mul, pn_subc, pn_addm, c_le_t, c_le_f, c_lt_t, c_lt_f, c_eq_f, c_eqm, bi_z, bi_1, bi_b, bi_T, bi_F, ite_not, up_eq, up_ne, or_self, or_true, true_or, or_false, false_or, and_true, true_and, and_self, not_true_eq_false, not_false_eq_true, Bool.false_eq_true]
      · simp -implicitDefEqProofs (disch := (first | omega | assumption | exact am_isS_3 | exact am_isS_25 | exact am_isX_356 | exact am_isX_359)) only [uR_moves, ggR_moves_0, ggR_moves_1, ggR_moves_2, ggR_moves_3, ggR_moves_4, ggR_moves_5, ccR_moves_0_2, ccR_moves_0_1, ccR_moves_2_1, ccR_moves_3_1, rR_noChild, rR_hasKnot, rR_throwsIf_f, r3, ek, f1, am_kI_x, am_kV_x, am_kI_i, am_nI_i, am_kV_i, am_nV_i, ↓reduceIte, eq_self, if_true, if_false, c_in, c_tn, pn_add, pn_mul, pn_subc, pn_addm, c_le_t, c_le_f, c_lt_t, c_lt_f, c_eq_f, c_eqm, bi_z, bi_1, bi_b, bi_T, bi_F, ite_not, up_eq, up_ne, or_self, or_true, true_or, or_false, false_or, and_true, true_and, and_self, not_true_eq_false, not_false_eq_true, Bool.false_eq_true]
  · refine ⟨am_th hC, am_up (am_up hR 373 0 (Int32.ofNat 0)) 373 0 (Int32.ofNat 1), (J0.thr (Int32.ofNat 1)).th, rfl, Or.inr ⟨3, 1, (Int32.ofNat 0), rfl, by decide, up_eq rfl rfl, ?_, ?_⟩⟩
    · simp -implicitDefEqProofs (disch := (first | omega | assumption | exact am_isS_3 | exact am_isS_25 | exact am_isX_356 | exact am_isX_359)) only [uF_moves, ggF_moves_0, ggF_moves_1, ggF_moves_2, ggF_moves_3, ccF_moves_0_2, ccF_moves_0_1, ccF_moves_2_1, xF_needChild_x r4 b2, am_kI_x, am_kV_x, am_kI_i, am_nI_i, am_kV_i, am_nV_i, ↓reduceIte, eq_self, if_true, if_false, c_in, c_tn, pn_add, pn_mul, pn_subc, pn_addm, c_le_t, c_le_f, c_lt_t, c_lt_f, c_eq_f, c_eqm, bi_z, bi_1, bi_b, bi_T, bi_F, ite_not, up_eq, up_ne, or_self, or_true, true_or, or_false, false_or, and_true, true_and, and_self, not_true_eq_false, not_false_eq_true, Bool.false_eq_true]
    · simp -implicitDefEqProofs (disch := (first | omega | assumption | exact am_isS_3 | exact am_isS_25 | exact am_isX_356 | exact am_isX_359)) only [uR_moves, ggR_moves_0, ggR_moves_1, ggR_moves_2, ggR_moves_3, ggR_moves_4, ggR_moves_5, ccR_moves_0_2, ccR_moves_0_1, ccR_moves_2_1, ccR_moves_3_1, rR_noChild, rR_throwsIf_t, r3, b1, am_kI_x, am_kV_x, am_kI_i, am_nI_i, am_kV_i, am_nV_i, ↓reduceIte, eq_self, if_true, if_false, c_in, c_tn, pn_add, pn_mul, pn_subc, pn_addm, c_le_t, c_le_f, c_lt_t, c_lt_f, c_eq_f, c_eqm, bi_z, bi_1, bi_b, bi_T, bi_F, ite_not, up_eq, up_ne, or_self, or_true, true_or, or_false, false_or, and_true, true_and, and_self, not_true_eq_false, not_false_eq_true, Bool.false_eq_true]
theorem T_first (x : Int32) : Two qF_first [.ref 0, .int x] qR_first [.ref 373, .int x] (am_ctt 13) := by
  intro d hC hR J
  have J0 := J.thr (Int32.ofNat 0)
  obtain ⟨⟨N, G, L⟩, -⟩ := id J0
  obtain ⟨R, okt, okc, okk, RL⟩ := id L
  have hN := R.1
  have r3 := R.2.2.1
  have r4 := R.2.2.2.1
  have r12 := R.2.2.2.2.2.2.2.2.2.2.2.1
  rcases ch_cases hN x with ⟨c, hc, rfl⟩ | ⟨b1, b2⟩
  · have hc8 : c < 8 := by omega
    rcases (okc c hc).2.2.2.2.2.2.2.2 with hk | ⟨k, hk, ek⟩
    · have ep := fun d => sS_pairOf0 am_isS_3 (h := hC) hc8 (by rw [r12 8 c (by omega) hc8]; exact hk) d
      refine ⟨hC, am_up hR 373 0 (Int32.ofNat 0), J0, rfl, Or.inl ⟨-1, rfl, up_eq rfl rfl, ?_, ?_⟩⟩
      · simp -implicitDefEqProofs (disch := (first | omega | assumption | exact am_isS_3 | exact am_isS_25 | exact am_isX_356 | exact am_isX_359)) only [uF_first, ggF_first_0, ggF_first_1, ggF_first_2, ggF_first_3, ccF_first_0_2, ccF_first_0_1, ccF_first_2_1, xF_needChild hN r4 hc, ep, am_kI_x, am_kV_x, am_kI_i, am_nI_i, am_kV_i, am_nV_i, ↓reduceIte, eq_self, if_true, if_false, c_in, c_tn, pn_add, pn_mul, pn_subc, pn_addm, c_le_t, c_le_f, c_lt_t, c_lt_f, c_eq_f, c_eqm, bi_z, bi_1, bi_b, bi_T, bi_F, ite_not, up_eq, up_ne, or_self, or_true, true_or, or_false, false_or, and_true, true_and, and_self, not_true_eq_false, not_false_eq_true, Bool.false_eq_true]
      · simp -implicitDefEqProofs (disch := (first | omega | assumption | exact am_isS_3 | exact am_isS_25 | exact am_isX_356 | exact am_isX_359)) only [uR_first, ggR_first_0, ggR_first_1, ggR_first_2, ggR_first_3, ggR_first_4, ggR_first_5, ccR_first_0_2, ccR_first_0_1, ccR_first_2_1, ccR_first_3_1, rR_noChild, rR_hasKnot, rR_throwsIf_f, r3, hk, am_kI_x, am_kV_x, am_kI_i, am_nI_i, am_kV_i, am_nV_i, ↓reduceIte, eq_self, if_true, if_false, c_in, c_tn, pn_add, pn_mul, pn_subc, pn_addm, c_le_t, c_le_f, c_lt_t, c_lt_f, c_eq_f, c_eqm, bi_z, bi_1, bi_b, bi_T, bi_F, ite_not, up_eq, up_ne, or_self, or_true, true_or, or_false, false_or, and_true, true_and, and_self, not_true_eq_false, not_false_eq_true, Bool.false_eq_true]
    · obtain ⟨s, hs, hso, pC, pR⟩ := knot_both L hc hk ek
      obtain ⟨h1, a1, a2, a3, a4, a5⟩ := xK_leastFirst J.2.2.2.2.2 hs (d + 113)
      obtain ⟨h2, f1, f2, f3⟩ := rR_fewest hs hso pR (Int32.ofNat 1) (d + 114)
      rw [if_neg (by decide)] at f1
      refine ⟨h1, h2, (J0.kn a5 a3 a4).kr f3, f2, Or.inl ⟨lfN s, a2, by rw [f3 373 0 (by omega) (by omega) (by omega) (by omega)]; exact up_eq rfl rfl, ?_, ?_⟩⟩
      · simp -implicitDefEqProofs (disch := (first | omega | assumption | exact am_isS_3 | exact am_isS_25 | exact am_isX_356 | exact am_isX_359)) only [uF_first, ggF_first_0, ggF_first_1, ggF_first_2, ggF_first_3, ccF_first_0_2, ccF_first_0_1, ccF_first_2_1, xF_needChild hN r4 hc, pC, a1, am_kI_x, am_kV_x, am_kI_i, am_nI_i, am_kV_i, am_nV_i, ↓reduceIte, eq_self, if_true, if_false, c_in, c_tn, pn_add, pn_mul, pn_subc, pn_addm, c_le_t, c_le_f, c_lt_t, c_lt_f, c_eq_f, c_eqm, bi_z, bi_1, bi_b, bi_T, bi_F, ite_not, up_eq, up_ne, or_self, or_true, true_or, or_false, false_or, and_true, true_and, and_self, not_true_eq_false, not_false_eq_true, Bool.false_eq_true]
      · simp -implicitDefEqProofs (disch := (first | omega | assumption | exact am_isS_3 | exact am_isS_25 | exact am_isX_356 | exact am_isX_359)) only [uR_first, ggR_first_0, ggR_first_1, ggR_first_2, ggR_first_3, ggR_first_4, ggR_first_5, ccR_first_0_2, ccR_first_0_1, ccR_first_2_1, ccR_first_3_1, rR_noChild, rR_hasKnot, rR_throwsIf_f, r3, ek, f1, am_kI_x, am_kV_x, am_kI_i, am_nI_i, am_kV_i, am_nV_i, ↓reduceIte, eq_self, if_true, if_false, c_in, c_tn, pn_add, pn_mul, pn_subc, pn_addm, c_le_t, c_le_f, c_lt_t, c_lt_f, c_eq_f, c_eqm, bi_z, bi_1, bi_b, bi_T, bi_F, ite_not, up_eq, up_ne, or_self, or_true, true_or, or_false, false_or, and_true, true_and, and_self, not_true_eq_false, not_false_eq_true, Bool.false_eq_true]
  · refine ⟨am_th hC, am_up (am_up hR 373 0 (Int32.ofNat 0)) 373 0 (Int32.ofNat 1), (J0.thr (Int32.ofNat 1)).th, rfl, Or.inr ⟨3, 1, (Int32.ofNat 0), rfl, by decide, up_eq rfl rfl, ?_, ?_⟩⟩
    · simp -implicitDefEqProofs (disch := (first | omega | assumption | exact am_isS_3 | exact am_isS_25 | exact am_isX_356 | exact am_isX_359)) only [uF_first, ggF_first_0, ggF_first_1, ggF_first_2, ggF_first_3, ccF_first_0_2, ccF_first_0_1, ccF_first_2_1, xF_needChild_x r4 b2, am_kI_x, am_kV_x, am_kI_i, am_nI_i, am_kV_i, am_nV_i, ↓reduceIte, eq_self, if_true, if_false, c_in, c_tn, pn_add, pn_mul, pn_subc, pn_addm, c_le_t, c_le_f, c_lt_t, c_lt_f, c_eq_f, c_eqm, bi_z, bi_1, bi_b, bi_T, bi_F, ite_not, up_eq, up_ne, or_self, or_true, true_or, or_false, false_or, and_true, true_and, and_self, not_true_eq_false, not_false_eq_true, Bool.false_eq_true]
    · simp -implicitDefEqProofs (disch := (first | omega | assumption | exact am_isS_3 | exact am_isS_25 | exact am_isX_356 | exact am_isX_359)) only [uR_first, ggR_first_0, ggR_first_1, ggR_first_2, ggR_first_3, ggR_first_4, ggR_first_5, ccR_first_0_2, ccR_first_0_1, ccR_first_2_1, ccR_first_3_1, rR_noChild, rR_throwsIf_t, r3, b1, am_kI_x, am_kV_x, am_kI_i, am_nI_i, am_kV_i, am_nV_i, ↓reduceIte, eq_self, if_true, if_false, c_in, c_tn, pn_add, pn_mul, pn_subc, pn_addm, c_le_t, c_le_f, c_lt_t, c_lt_f, c_eq_f, c_eqm, bi_z, bi_1, bi_b, bi_T, bi_F, ite_not, up_eq, up_ne, or_self, or_true, true_or, or_false, false_or, and_true, true_and, and_self, not_true_eq_false, not_false_eq_true, Bool.false_eq_true]
