/-! knots: how far each pair is; the class's search -/
theorem kgo_all : (List.range 1024).all (fun p => (List.range 10).all (fun m => decide (kgo p m < 1024) && decide (kgo (kgo p m) m = p) && (!kmv p m || kmv (kgo p m) m) && decide (Int32.ofNat p ^^^ (Int32.ofNat 1 <<< (Int32.ofNat m &&& Int32.ofNat 31)) = Int32.ofNat (kgo p m)))) = true := by decide +kernel
theorem kgo_at {p m : Nat} (hp : p < 1024) (hm : m < 10) : kgo p m < 1024 ∧ kgo (kgo p m) m = p ∧ (kmv p m = true → kmv (kgo p m) m = true) ∧ (Int32.ofNat p) ^^^ ((Int32.ofNat 1) <<< ((Int32.ofNat m) &&& (Int32.ofNat 31))) = (Int32.ofNat (kgo p m)) := by
  have := List.all_eq_true.mp (List.all_eq_true.mp kgo_all p (List.mem_range.mpr hp)) m (List.mem_range.mpr hm)
  rw [Bool.and_eq_true, Bool.and_eq_true, Bool.and_eq_true, decide_eq_true_eq, decide_eq_true_eq, decide_eq_true_eq] at this
  obtain ⟨⟨⟨a, b⟩, c⟩, e⟩ := this
  refine ⟨a, b, fun q => ?_, e⟩
  rw [q] at c
  exact c
theorem klev_S {n p : Nat} : klev (n + 1) p = true ↔ klev n p = true ∨ ∃ m, m < 10 ∧ kmv p m = true ∧ klev n (kgo p m) = true := by
  show (klev n p || (List.range 10).any (fun m => kmv p m && klev n (kgo p m))) = true ↔ _
  rw [Bool.or_eq_true, List.any_eq_true]
  constructor
  · rintro (h | ⟨m, h1, h2⟩)
    · exact Or.inl h
    · rw [Bool.and_eq_true] at h2
      exact Or.inr ⟨m, List.mem_range.mp h1, h2.1, h2.2⟩
  · rintro (h | ⟨m, h1, h2, h3⟩)
    · exact Or.inl h
    · exact Or.inr ⟨m, List.mem_range.mpr h1, by rw [h2, h3]; rfl⟩
theorem kdist_some {p k : Nat} (hk : k < 1100) (h : klev k p = true) (hl : ∀ j, j < k → ¬ klev j p = true) : kdist p = (Int32.ofNat k) := by
  have : (List.range 1100).find? (fun n => klev n p) = some k := List.find?_range_eq_some.mpr ⟨h, List.mem_range.mpr hk, fun j hj => by
    rw [Bool.eq_false_iff.mpr (hl j hj)]
    rfl⟩
  unfold kdist
  rw [this]
theorem kdist_none {p : Nat} (h : ∀ j, ¬ klev j p = true) : kdist p = -1 := by
  have : (List.range 1100).find? (fun n => klev n p) = none := List.find?_eq_none.mpr (fun j _ => h j)
  unfold kdist
  rw [this]
def updN (f : Nat → Nat) (x v : Nat) (y : Nat) : Nat := if y = x then v else f y
def updB (f : Nat → Bool) (x y : Nat) : Bool := if y = x then true else f y
theorem updN_eq {f : Nat → Nat} {x v : Nat} : updN f x v x = v := if_pos rfl
theorem updN_ne {f : Nat → Nat} {x v y : Nat} (h : y ≠ x) : updN f x v y = f y := if_neg h
theorem updB_eq {f : Nat → Bool} {x : Nat} : updB f x x = true := if_pos rfl
theorem updB_ne {f : Nat → Bool} {x y : Nat} (h : y ≠ x) : updB f x y = f y := if_neg h
/-- the search so far: n are found, those ahead of i are gone from -/
def PI (dn qn : Nat → Nat) (ds : Nat → Bool) (n i : Nat) : Prop :=
  (∀ j, j < n → qn j < 1024 ∧ ds (qn j) = true ∧ dn (qn j) ≤ j) ∧ cnt ds 1024 = n ∧ (∀ p, p < 1024 → ds p = true → ∃ j, j < n ∧ qn j = p) ∧ (∀ j k, j ≤ k → k < n → dn (qn j) ≤ dn (qn k)) ∧ (∀ p, p < 1024 → ds p = true → klev (dn p) p = true) ∧ (∀ p, p < 1024 → kout p = true → ds p = true ∧ dn p = 0) ∧ (∀ j, j < i → j < n → ∀ m, m < 10 → kmv (qn j) m = true → ds (kgo (qn j) m) = true ∧ dn (kgo (qn j) m) ≤ dn (qn j) + 1) ∧ (i < n → ∀ j, j < n → dn (qn j) ≤ dn (qn i) + 1)
/-- and of i the moves ahead of m are done -/
def PM (dn qn : Nat → Nat) (ds : Nat → Bool) (i m : Nat) : Prop := ∀ m', m' < m → m' < 10 → kmv (qn i) m' = true → ds (kgo (qn i) m') = true ∧ dn (kgo (qn i) m') ≤ dn (qn i) + 1
theorem PI_add {dn qn : Nat → Nat} {ds : Nat → Bool} {n i m : Nat} (H : PI dn qn ds n i) (M : PM dn qn ds i m) (hi : i < n) (hm : m < 10) (hk : kmv (qn i) m = true) (hd : ds (kgo (qn i) m) = false) : n < 1024 ∧ PI (updN dn (kgo (qn i) m) (dn (qn i) + 1)) (updN qn n (kgo (qn i) m)) (updB ds (kgo (qn i) m)) (n + 1) i ∧ PM (updN dn (kgo (qn i) m) (dn (qn i) + 1)) (updN qn n (kgo (qn i) m)) (updB ds (kgo (qn i) m)) i (m + 1) := by
  obtain ⟨a, b, c, e, f, g, k, l⟩ := H
  obtain ⟨i1, i2, i3⟩ := a i hi
  obtain ⟨r1, r2, r3, -⟩ := kgo_at i1 hm
  have hk2 := r3 hk
  generalize hr : kgo (qn i) m = r at *
  have hn : n < 1024 := by rw [← b]; exact cnt_lt hd r1
  have nr : ∀ j, j < n → qn j ≠ r := fun j hj q => by have := (a j hj).2.1; rw [q, hd] at this; exact absurd this (by decide)
  have dsr : ∀ p, ds p = true → p ≠ r := fun p hp q => by rw [q, hd] at hp; exact absurd hp (by decide)
  have q1 : ∀ j, j < n → updN qn n r j = qn j := fun j hj => updN_ne (by omega)
  have qi := q1 i hi
  have d1 : ∀ j, j < n → updN dn r (dn (qn i) + 1) (qn j) = dn (qn j) := fun j hj => updN_ne (nr j hj)
  have li := l hi
  refine ⟨hn, ⟨fun j hj => ?_, ?_, fun p hp hdp => ?_, fun j k' hj hk' => ?_, fun p hp hdp => ?_, fun p hp hko => ?_, fun j hj hjn m' hm' hkm => ?_, fun _ j hj => ?_⟩, fun m' h1 h2 h3 => ?_⟩
  · by_cases z : j = n
    · rw [z, updN_eq, updN_eq, updB_eq]
      exact ⟨r1, rfl, by omega⟩
    · obtain ⟨a1, a2, a3⟩ := a j (by omega)
      rw [q1 j (by omega), d1 j (by omega), updB_ne (nr j (by omega))]
      exact ⟨a1, a2, a3⟩
  · rw [← b]
    exact cnt_set hd updB_eq (fun j _ hj => updB_ne hj) r1
  · by_cases z : p = r
    · exact ⟨n, by omega, by rw [updN_eq, z]⟩
    · rw [updB_ne z] at hdp
      obtain ⟨j, j1, j2⟩ := c p hp hdp
      exact ⟨j, by omega, by rw [q1 j j1]; exact j2⟩
  · by_cases z : k' = n
    · rw [z, updN_eq, updN_eq]
      by_cases w : j = n
      · rw [w, updN_eq, updN_eq]; exact Nat.le_refl _
      · rw [q1 j (by omega), d1 j (by omega)]; exact li j (by omega)
    · rw [q1 j (by omega), d1 j (by omega), q1 k' (by omega), d1 k' (by omega)]
      exact e j k' hj (by omega)
  · by_cases z : p = r
    · rw [z, updN_eq, klev_S]
      exact Or.inr ⟨m, hm, hk2, by rw [r2]; exact f _ i1 i2⟩
    · rw [updN_ne z]
      rw [updB_ne z] at hdp
      exact f p hp hdp
  · obtain ⟨g1, g2⟩ := g p hp hko
    rw [updB_ne (dsr p g1), updN_ne (dsr p g1)]
    exact ⟨g1, g2⟩
  · have hjn' : j < n := by omega
    rw [q1 j hjn'] at hkm ⊢
    obtain ⟨k1, k2⟩ := k j hj hjn' m' hm' hkm
    rw [updB_ne (dsr _ k1), updN_ne (dsr _ k1), d1 j hjn']
    exact ⟨k1, k2⟩
  · rw [qi, d1 i hi]
    by_cases z : j = n
    · rw [z, updN_eq, updN_eq]; exact Nat.le_refl _
    · rw [q1 j (by omega), d1 j (by omega)]; exact li j (by omega)
  · rw [qi] at h3 ⊢
    rw [d1 i hi]
    by_cases z : m' = m
    · rw [z, hr, updB_eq, updN_eq]; exact ⟨rfl, Nat.le_refl _⟩
    · obtain ⟨k1, k2⟩ := M m' (by omega) h2 h3
      rw [updB_ne (dsr _ k1), updN_ne (dsr _ k1)]
      exact ⟨k1, k2⟩
theorem PI_next {dn qn : Nat → Nat} {ds : Nat → Bool} {n i : Nat} (H : PI dn qn ds n i) (M : PM dn qn ds i 10) (hi : i < n) : PI dn qn ds n (i + 1) := by
  obtain ⟨a, b, c, e, f, g, k, l⟩ := H
  refine ⟨a, b, c, e, f, g, fun j hj hjn m hm hk => ?_, fun h j hj => ?_⟩
  · by_cases z : j = i
    · subst z; exact M m hm hm hk
    · exact k j (by omega) hjn m hm hk
  · have := l hi j hj
    have := e i (i + 1) (by omega) h
    omega
theorem PI_end {dn qn : Nat → Nat} {ds : Nat → Bool} {n i : Nat} (H : PI dn qn ds n i) (hi : n ≤ i) : ∀ p, p < 1024 → (if ds p = true then (Int32.ofNat (dn p)) else -1) = kdist p := by
  obtain ⟨a, b, c, e, f, g, k, l⟩ := H
  have fin : ∀ t p, p < 1024 → klev t p = true → ds p = true ∧ dn p ≤ t := by
    intro t
    induction t with
    | zero =>
      intro p hp h
      obtain ⟨g1, g2⟩ := g p hp h
      exact ⟨g1, by omega⟩
    | succ t ih =>
      intro p hp h
      rcases klev_S.mp h with h | ⟨m, m1, m2, m3⟩
      · obtain ⟨x, y⟩ := ih p hp h
        exact ⟨x, by omega⟩
      · obtain ⟨r1, r2, r3, -⟩ := kgo_at hp m1
        obtain ⟨x, y⟩ := ih _ r1 m3
        obtain ⟨j, j1, j2⟩ := c _ r1 x
        have := k j (by omega) j1 m m1 (by rw [j2]; exact r3 m2)
        rw [j2, r2] at this
        exact ⟨this.1, by omega⟩
  intro p hp
  by_cases hd : ds p = true
  · rw [if_pos hd]
    obtain ⟨j, j1, j2⟩ := c p hp hd
    have hj := (a j j1).2.2
    rw [j2] at hj
    have cn : n ≤ 1024 := by rw [← b]; exact cnt_le _
    exact (kdist_some (by omega) (f p hp hd) (fun t ht h => by have := (fin t p hp h).2; omega)).symm
  · rw [if_neg hd]
    exact (kdist_none (fun t h => hd (fin t p hp h).1)).symm
/-- the class's cells hold it -/
def KH (h : am_H) (dn qn : Nat → Nat) (ds : Nat → Bool) (n : Nat) : Prop := (∀ p, p < 1024 → h.2 363 p = if ds p = true then (Int32.ofNat (dn p)) else -1) ∧ ∀ j, j < n → h.2 364 j = (Int32.ofNat (qn j))
theorem xK_reachFrom {i : Nat} (d : Nat) : ∀ (k m : Nat) (h : am_H) (dn qn : Nat → Nat) (ds : Nat → Bool) (n x2 : Nat) (x5 : Value) (fr : Nat), m + k = 10 → KH h dn qn ds n → PI dn qn ds n i → PM dn qn ds i m → i < n → fr = qn i → ∃ h' dn' qn' ds' n', am_go (am_cl (d + 2)) qK_reachFrom 1 [.ref 362, .int (Int32.ofNat fr), .int (Int32.ofNat x2), .int (Int32.ofNat n), .int (Int32.ofNat m), x5] [] h = some (.inl (some ((Int32.ofNat n'))), h') ∧ h'.1 = h.1 ∧ KH h' dn' qn' ds' n' ∧ PI dn' qn' ds' n' (i + 1) ∧ n' ≤ 1024 ∧ ∀ p, p ≠ 363 → p ≠ 364 → h'.2 p = h.2 p := by
  intro k
  induction k with
  | zero =>
    intro m h dn qn ds n x2 x5 fr hm KHh H M hi hfr
    have hm : m = 10 := by omega
    subst hm
    have cn : n ≤ 1024 := by rw [← H.2.1]; exact cnt_le _
    refine ⟨h, dn, qn, ds, n, ?_, rfl, KHh, PI_next H M hi, cn, fun _ _ _ => rfl⟩
    rw [ggK_reachFrom_1]
    simp -implicitDefEqProofs (disch := (first | omega | assumption | exact am_isS_3 | exact am_isS_25 | exact am_isX_356 | exact am_isX_359)) only [ggK_reachFrom_0, ggK_reachFrom_2, ggK_reachFrom_3, ggK_reachFrom_4, ggK_reachFrom_5, ggK_reachFrom_6, ggK_reachFrom_7, ccK_reachFrom_3_1, am_kI_x, am_kV_x, am_kI_i, am_nI_i, am_kV_i, am_nV_i, ↓reduceIte, eq_self, if_true, if_false, c_in, c_tn, pn_add, pn_mul, pn_subc, pn_addm, c_le_t, c_le_f, c_lt_t, c_lt_f, c_eq_f, c_eqm, bi_z, bi_1, bi_b, bi_T, bi_F, ite_not, up_eq, up_ne, or_self, or_true, true_or, or_false, false_or, and_true, true_and, and_self, not_true_eq_false, not_false_eq_true, Bool.false_eq_true]
  | succ k ih =>
    intro m h dn qn ds n x2 x5 fr hm KHh H M hi hfr
    obtain ⟨i1, i2, i3⟩ := H.1 i hi
    rw [← hfr] at i1 i2 i3
    have hm10 : m < 10 := by omega
    obtain ⟨r1, r2, r3, r4⟩ := kgo_at i1 hm10
    have e1 := KHh.1 _ r1
    have e0 := KHh.1 _ i1
    rw [if_pos i2] at e0
    have cn : n ≤ 1024 := by rw [← H.2.1]; exact cnt_le _
    have em := fun d => xK_isMove i1 hm10 d h
    by_cases hd : ds (kgo fr m) = true
    · rw [if_pos hd] at e1
      have dl : dn (kgo fr m) < 1024 := by
        obtain ⟨j, j1, j2⟩ := H.2.2.1 _ r1 hd
        have := (H.1 j j1).2.2
        rw [j2] at this
        omega
      have hle : dn (kgo fr m) ≤ dn fr + 1 := by
        obtain ⟨j, j1, j2⟩ := H.2.2.1 _ r1 hd
        have := H.2.2.2.2.2.2.2 hi j j1
        rw [j2, ← hfr] at this
        exact this
      obtain ⟨h', dn', qn', ds', n', a1, a2, a3, a4, a5, a6⟩ := ih (m + 1) h dn qn ds n x2 (.int (Int32.ofNat (kgo fr m))) fr (by omega) KHh H (fun m' h1 h2 h3 => by
        by_cases z : m' = m
        · rw [z, ← hfr]; exact ⟨hd, hle⟩
        · exact M m' (by omega) h2 h3) hi hfr
      refine ⟨h', dn', qn', ds', n', ?_, a2, a3, a4, a5, a6⟩
      rw [ggK_reachFrom_1]
      simp -implicitDefEqProofs (disch := (first | omega | assumption | exact am_isS_3 | exact am_isS_25 | exact am_isX_356 | exact am_isX_359)) only [ggK_reachFrom_0, ggK_reachFrom_2, ggK_reachFrom_3, ggK_reachFrom_4, ggK_reachFrom_5, ggK_reachFrom_6, ggK_reachFrom_7, ccK_reachFrom_3_1, r4, e1, am_kI_x, am_kV_x, am_kI_i, am_nI_i, am_kV_i, am_nV_i, ↓reduceIte, eq_self, if_true, if_false, c_in, c_tn, pn_add, pn_mul, pn_subc, pn_addm, c_le_t, c_le_f, c_lt_t, c_lt_f, c_eq_f, c_eqm, bi_z, bi_1, bi_b, bi_T, bi_F, ite_not, up_eq, up_ne, or_self, or_true, true_or, or_false, false_or, and_true, true_and, and_self, not_true_eq_false, not_false_eq_true, Bool.false_eq_true]
      exact a1
    · have hdf := Bool.eq_false_iff.mpr hd
      rw [if_neg hd] at e1
      by_cases hk : kmv fr m = true
      · rw [bi_t hk] at em
        have hk' : kmv (qn i) m = true := by rw [← hfr]; exact hk
        have hd' : ds (kgo (qn i) m) = false := by rw [← hfr]; exact hdf
        obtain ⟨n1, n2, n3⟩ := PI_add H M hi hm10 hk' hd'
        rw [← hfr] at n2 n3
        obtain ⟨h', dn', qn', ds', n', a1, a2, a3, a4, a5, a6⟩ := ih (m + 1) (am_up (am_up h 363 (kgo fr m) (Int32.ofNat (dn fr + 1))) 364 n (Int32.ofNat (kgo fr m))) (updN dn (kgo fr m) (dn fr + 1)) (updN qn n (kgo fr m)) (updB ds (kgo fr m)) (n + 1) x2 (.int (Int32.ofNat (kgo fr m))) fr (by omega) ⟨fun p hp => by
            rw [up_ne (by omega)]
            by_cases z : p = kgo fr m
            · rw [z, up_eq rfl rfl, updB_eq, updN_eq, if_pos rfl]
            · rw [up_ne (by omega), updB_ne z, updN_ne z]; exact KHh.1 p hp, fun j hj => by
            by_cases z : j = n
            · rw [z, up_eq rfl rfl, updN_eq]
            · rw [up_ne (by omega), up_ne (by omega), updN_ne z]; exact KHh.2 j (by omega)⟩ n2 n3 (by omega) (by rw [updN_ne (by omega)]; exact hfr)
        refine ⟨h', dn', qn', ds', n', ?_, a2, a3, a4, a5, fun p p1 p2 => by rw [a6 p p1 p2, up_o p2, up_o p1]⟩
        rw [ggK_reachFrom_1]
        simp -implicitDefEqProofs (disch := (first | omega | assumption | exact am_isS_3 | exact am_isS_25 | exact am_isX_356 | exact am_isX_359)) only [ggK_reachFrom_0, ggK_reachFrom_2, ggK_reachFrom_3, ggK_reachFrom_4, ggK_reachFrom_5, ggK_reachFrom_6, ggK_reachFrom_7, ccK_reachFrom_3_1, r4, e1, em, e0, am_kI_x, am_kV_x, am_kI_i, am_nI_i, am_kV_i, am_nV_i, ↓reduceIte, eq_self, if_true, if_false, c_in, c_tn, pn_add, pn_mul, pn_subc, pn_addm, c_le_t, c_le_f, c_lt_t, c_lt_f, c_eq_f, c_eqm, bi_z, bi_1, bi_b, bi_T, bi_F, ite_not, up_eq, up_ne, or_self, or_true, true_or, or_false, false_or, and_true, true_and, and_self, not_true_eq_false, not_false_eq_true, Bool.false_eq_true]
        exact a1
      · rw [bi_f hk] at em
        obtain ⟨h', dn', qn', ds', n', a1, a2, a3, a4, a5, a6⟩ := ih (m + 1) h dn qn ds n x2 (.int (Int32.ofNat (kgo fr m))) fr (by omega) KHh H (fun m' h1 h2 h3 => by
          by_cases z : m' = m
          · rw [z, ← hfr] at h3; exact absurd h3 hk
          · exact M m' (by omega) h2 h3) hi hfr
        refine ⟨h', dn', qn', ds', n', ?_, a2, a3, a4, a5, a6⟩
        rw [ggK_reachFrom_1]
        simp -implicitDefEqProofs (disch := (first | omega | assumption | exact am_isS_3 | exact am_isS_25 | exact am_isX_356 | exact am_isX_359)) only [ggK_reachFrom_0, ggK_reachFrom_2, ggK_reachFrom_3, ggK_reachFrom_4, ggK_reachFrom_5, ggK_reachFrom_6, ggK_reachFrom_7, ccK_reachFrom_3_1, r4, e1, em, am_kI_x, am_kV_x, am_kI_i, am_nI_i, am_kV_i, am_nV_i, ↓reduceIte, eq_self, if_true, if_false, c_in, c_tn, pn_add, pn_mul, pn_subc, pn_addm, c_le_t, c_le_f, c_lt_t, c_lt_f, c_eq_f, c_eqm, bi_z, bi_1, bi_b, bi_T, bi_F, ite_not, up_eq, up_ne, or_self, or_true, true_or, or_false, false_or, and_true, true_and, and_self, not_true_eq_false, not_false_eq_true, Bool.false_eq_true]
        exact a1
theorem xK_search_15 (d : Nat) : ∀ (k i : Nat) (h : am_H) (dn qn : Nat → Nat) (ds : Nat → Bool) (n : Nat) (x3 : Value), i + k = 1025 → KH h dn qn ds n → PI dn qn ds n i → ∃ h', am_go (am_cl (d + 3)) qK_search 15 [.ref 362, .int (Int32.ofNat n), .int (Int32.ofNat i), x3] [] h = some (.inl none, h') ∧ h'.1 = h.1 ∧ (∀ p, p < 1024 → h'.2 363 p = kdist p) ∧ ∀ p, p ≠ 363 → p ≠ 364 → h'.2 p = h.2 p := by
  intro k
  induction k with
  | zero =>
    intro i h dn qn ds n x3 hi KHh H
    have cn : n ≤ 1024 := by rw [← H.2.1]; exact cnt_le _
    refine ⟨h, ?_, rfl, fun p hp => by rw [KHh.1 p hp, PI_end H (by omega) p hp], fun _ _ _ => rfl⟩
    rw [ggK_search_15]
    simp -implicitDefEqProofs (disch := (first | omega | assumption | exact am_isS_3 | exact am_isS_25 | exact am_isX_356 | exact am_isX_359)) only [ggK_search_0, ggK_search_1, ggK_search_2, ggK_search_4, ggK_search_5, ggK_search_6, ggK_search_7, ggK_search_8, ggK_search_9, ggK_search_10, ggK_search_11, ggK_search_12, ggK_search_13, ggK_search_14, ggK_search_16, ggK_search_17, ggK_search_18, ccK_search_17_1, am_kI_x, am_kV_x, am_kI_i, am_nI_i, am_kV_i, am_nV_i, ↓reduceIte, eq_self, if_true, if_false, c_in, c_tn, pn_add, pn_mul, pn_subc, pn_addm, c_le_t, c_le_f, c_lt_t, c_lt_f, c_eq_f, c_eqm, bi_z, bi_1, bi_b, bi_T, bi_F, ite_not, up_eq, up_ne, or_self, or_true, true_or, or_false, false_or, and_true, true_and, and_self, not_true_eq_false, not_false_eq_true, Bool.false_eq_true]
  | succ k ih =>
    intro i h dn qn ds n x3 hi KHh H
    have cn : n ≤ 1024 := by rw [← H.2.1]; exact cnt_le _
    by_cases hin : i < n
    · have eq := KHh.2 i hin
      obtain ⟨h1, dn', qn', ds', n', a1, a2, a3, a4, a5, a6⟩ := xK_reachFrom (i := i) d 10 0 h dn qn ds n n .null (qn i) (by omega) KHh H (fun m' h1 => by omega) hin rfl
      have a1' : am_cl (d + 3) qK_reachFrom [.ref 362, .int (Int32.ofNat (qn i)), .int (Int32.ofNat n)] h = some (.inl (some ((Int32.ofNat n'))), h1) := by
        rw [uK_reachFrom, ggK_reachFrom_0]; exact a1
      obtain ⟨h', b1, b2, b3, b4⟩ := ih (i + 1) h1 dn' qn' ds' n' x3 (by omega) a3 a4
      refine ⟨h', ?_, b2.trans a2, b3, fun p p1 p2 => by rw [b4 p p1 p2, a6 p p1 p2]⟩
      rw [ggK_search_15]
      simp -implicitDefEqProofs (disch := (first | omega | assumption | exact am_isS_3 | exact am_isS_25 | exact am_isX_356 | exact am_isX_359)) only [ggK_search_0, ggK_search_1, ggK_search_2, ggK_search_4, ggK_search_5, ggK_search_6, ggK_search_7, ggK_search_8, ggK_search_9, ggK_search_10, ggK_search_11, ggK_search_12, ggK_search_13, ggK_search_14, ggK_search_16, ggK_search_17, ggK_search_18, ccK_search_17_1, eq, a1', am_kI_x, am_kV_x, am_kI_i, am_nI_i, am_kV_i, am_nV_i, ↓reduceIte, eq_self, if_true, if_false, c_in, c_tn, pn_add, pn_mul, pn_subc, pn_addm, c_le_t, c_le_f, c_lt_t, c_lt_f, c_eq_f, c_eqm, bi_z, bi_1, bi_b, bi_T, bi_F, ite_not, up_eq, up_ne, or_self, or_true, true_or, or_false, false_or, and_true, true_and, and_self, not_true_eq_false, not_false_eq_true, Bool.false_eq_true]
      exact b1
    · refine ⟨h, ?_, rfl, fun p hp => by rw [KHh.1 p hp, PI_end H (by omega) p hp], fun _ _ _ => rfl⟩
      rw [ggK_search_15]
      simp -implicitDefEqProofs (disch := (first | omega | assumption | exact am_isS_3 | exact am_isS_25 | exact am_isX_356 | exact am_isX_359)) only [ggK_search_0, ggK_search_1, ggK_search_2, ggK_search_4, ggK_search_5, ggK_search_6, ggK_search_7, ggK_search_8, ggK_search_9, ggK_search_10, ggK_search_11, ggK_search_12, ggK_search_13, ggK_search_14, ggK_search_16, ggK_search_17, ggK_search_18, ccK_search_17_1, am_kI_x, am_kV_x, am_kI_i, am_nI_i, am_kV_i, am_nV_i, ↓reduceIte, eq_self, if_true, if_false, c_in, c_tn, pn_add, pn_mul, pn_subc, pn_addm, c_le_t, c_le_f, c_lt_t, c_lt_f, c_eq_f, c_eqm, bi_z, bi_1, bi_b, bi_T, bi_F, ite_not, up_eq, up_ne, or_self, or_true, true_or, or_false, false_or, and_true, true_and, and_self, not_true_eq_false, not_false_eq_true, Bool.false_eq_true]
theorem k_363b : am_kd 363 = 20 := rfl
theorem n_363b : am_ln 363 = 1024 := rfl
theorem xK_search_3 (d : Nat) : ∀ (k c n : Nat) (qn : Nat → Nat) (h : am_H) (x3 : Value), c + k = 1024 → n ≤ c → cnt kout c = n → (∀ p, p < c → h.2 363 p = if kout p = true then (Int32.ofNat 0) else -1) → (∀ j, j < n → h.2 364 j = (Int32.ofNat (qn j)) ∧ qn j < 1024 ∧ kout (qn j) = true) → (∀ p, p < c → kout p = true → ∃ j, j < n ∧ qn j = p) → ∃ h' n' qn' x3', am_go (am_cl d) qK_search 3 [.ref 362, .int (Int32.ofNat n), .int (Int32.ofNat c), x3] [] h = am_go (am_cl d) qK_search 15 [.ref 362, .int (Int32.ofNat n'), .int (Int32.ofNat 0), x3'] [] h' ∧ h'.1 = h.1 ∧ KH h' (fun _ => 0) qn' kout n' ∧ PI (fun _ => 0) qn' kout n' 0 ∧ ∀ p, p ≠ 363 → p ≠ 364 → h'.2 p = h.2 p := by
  intro k
  induction k with
  | zero =>
    intro c n qn h x3 hc hn hcn e1 e2 e3
    have hc : c = 1024 := by omega
    subst hc
    refine ⟨h, n, qn, x3, ?_, rfl, ⟨e1, fun j hj => (e2 j hj).1⟩, ⟨fun j hj => ⟨(e2 j hj).2.1, (e2 j hj).2.2, Nat.zero_le _⟩, hcn, e3, fun _ _ _ _ => Nat.le_refl _, fun p _ hp => hp, fun p _ hp => ⟨hp, rfl⟩, fun j hj => by omega, fun _ _ _ => Nat.zero_le _⟩, fun _ _ _ => rfl⟩
    rw [ggK_search_3]
    simp -implicitDefEqProofs (disch := (first | omega | assumption | exact am_isS_3 | exact am_isS_25 | exact am_isX_356 | exact am_isX_359)) only [ggK_search_0, ggK_search_1, ggK_search_2, ggK_search_4, ggK_search_5, ggK_search_6, ggK_search_7, ggK_search_8, ggK_search_9, ggK_search_10, ggK_search_11, ggK_search_12, ggK_search_13, ggK_search_14, ggK_search_16, ggK_search_17, ggK_search_18, ccK_search_17_1, am_kI_x, am_kV_x, am_kI_i, am_nI_i, am_kV_i, am_nV_i, ↓reduceIte, eq_self, if_true, if_false, c_in, c_tn, pn_add, pn_mul, pn_subc, pn_addm, c_le_t, c_le_f, c_lt_t, c_lt_f, c_eq_f, c_eqm, bi_z, bi_1, bi_b, bi_T, bi_F, ite_not, up_eq, up_ne, or_self, or_true, true_or, or_false, false_or, and_true, true_and, and_self, not_true_eq_false, not_false_eq_true, Bool.false_eq_true]
  | succ k ih =>
    intro c n qn h x3 hc hn hcn e1 e2 e3
    obtain ⟨q1, q2⟩ := pq_at (p := c) (by omega)
    by_cases ho : kout c = true
    · obtain ⟨h', n', qn', x3', a1, a2, a3, a4, a5⟩ := ih (c + 1) (n + 1) (updN qn n c) (am_up (am_up h 363 c (Int32.ofNat 0)) 364 n (Int32.ofNat c)) (.int (Int32.ofNat 1)) (by omega) (by omega) (by rw [cnt_S, if_pos ho, hcn]) (fun p hp => by
        rw [up_ne (by omega)]
        by_cases z : p = c
        · rw [z, up_eq rfl rfl, if_pos ho]
        · rw [up_ne (by omega)]; exact e1 p (by omega)) (fun j hj => by
        by_cases z : j = n
        · rw [z, up_eq rfl rfl, updN_eq]; exact ⟨rfl, by omega, ho⟩
        · rw [up_ne (by omega), up_ne (by omega), updN_ne z]; exact e2 j (by omega)) (fun p hp hk => by
        by_cases z : p = c
        · exact ⟨n, by omega, by rw [updN_eq, z]⟩
        · obtain ⟨j, j1, j2⟩ := e3 p (by omega) hk
          exact ⟨j, by omega, by rw [updN_ne (by omega)]; exact j2⟩)
      refine ⟨h', n', qn', x3', ?_, a2, a3, a4, fun p p1 p2 => by rw [a5 p p1 p2, up_o p2, up_o p1]⟩
      unfold kout at ho
      rw [Bool.or_eq_true, decide_eq_true_eq, decide_eq_true_eq] at ho
      rw [ggK_search_3]
      by_cases h0 : c % 32 = 0
      · simp -implicitDefEqProofs (disch := (first | omega | assumption | exact am_isS_3 | exact am_isS_25 | exact am_isX_356 | exact am_isX_359)) only [ggK_search_0, ggK_search_1, ggK_search_2, ggK_search_4, ggK_search_5, ggK_search_6, ggK_search_7, ggK_search_8, ggK_search_9, ggK_search_10, ggK_search_11, ggK_search_12, ggK_search_13, ggK_search_14, ggK_search_16, ggK_search_17, ggK_search_18, ccK_search_17_1, k_363b, n_363b, q1, q2, h0, am_kI_x, am_kV_x, am_kI_i, am_nI_i, am_kV_i, am_nV_i, ↓reduceIte, eq_self, if_true, if_false, c_in, c_tn, pn_add, pn_mul, pn_subc, pn_addm, c_le_t, c_le_f, c_lt_t, c_lt_f, c_eq_f, c_eqm, bi_z, bi_1, bi_b, bi_T, bi_F, ite_not, up_eq, up_ne, or_self, or_true, true_or, or_false, false_or, and_true, true_and, and_self, not_true_eq_false, not_false_eq_true, Bool.false_eq_true]
        exact a1
      · have h1 : c / 32 = 0 := by omega
        simp -implicitDefEqProofs (disch := (first | omega | assumption | exact am_isS_3 | exact am_isS_25 | exact am_isX_356 | exact am_isX_359)) only [ggK_search_0, ggK_search_1, ggK_search_2, ggK_search_4, ggK_search_5, ggK_search_6, ggK_search_7, ggK_search_8, ggK_search_9, ggK_search_10, ggK_search_11, ggK_search_12, ggK_search_13, ggK_search_14, ggK_search_16, ggK_search_17, ggK_search_18, ccK_search_17_1, k_363b, n_363b, q1, q2, h1, am_kI_x, am_kV_x, am_kI_i, am_nI_i, am_kV_i, am_nV_i, ↓reduceIte, eq_self, if_true, if_false, c_in, c_tn, pn_add, pn_mul, pn_subc, pn_addm, c_le_t, c_le_f, c_lt_t, c_lt_f, c_eq_f, c_eqm, bi_z, bi_1, bi_b, bi_T, bi_F, ite_not, up_eq, up_ne, or_self, or_true, true_or, or_false, false_or, and_true, true_and, and_self, not_true_eq_false, not_false_eq_true, Bool.false_eq_true]
        exact a1
    · obtain ⟨h', n', qn', x3', a1, a2, a3, a4, a5⟩ := ih (c + 1) n qn (am_up h 363 c (-1)) (.int (Int32.ofNat 0)) (by omega) (by omega) (by rw [cnt_S, if_neg ho, hcn]; rfl) (fun p hp => by
        by_cases z : p = c
        · rw [z, up_eq rfl rfl, if_neg ho]
        · rw [up_ne (by omega)]; exact e1 p (by omega)) (fun j hj => by rw [up_ne (by omega)]; exact e2 j hj) (fun p hp hk => by
        by_cases z : p = c
        · rw [z] at hk; exact absurd hk ho
        · exact e3 p (by omega) hk)
      refine ⟨h', n', qn', x3', ?_, a2, a3, a4, fun p p1 p2 => by rw [a5 p p1 p2, up_o p1]⟩
      unfold kout at ho
      rw [Bool.or_eq_true, decide_eq_true_eq, decide_eq_true_eq] at ho
      have h0 : c % 32 ≠ 0 := fun q => ho (Or.inl q)
      have h1 : c / 32 ≠ 0 := fun q => ho (Or.inr q)
      rw [ggK_search_3]
      simp -implicitDefEqProofs (disch := (first | omega | assumption | exact am_isS_3 | exact am_isS_25 | exact am_isX_356 | exact am_isX_359)) only [ggK_search_0, ggK_search_1, ggK_search_2, ggK_search_4, ggK_search_5, ggK_search_6, ggK_search_7, ggK_search_8, ggK_search_9, ggK_search_10, ggK_search_11, ggK_search_12, ggK_search_13, ggK_search_14, ggK_search_16, ggK_search_17, ggK_search_18, ccK_search_17_1, k_363b, n_363b, q1, q2, am_kI_x, am_kV_x, am_kI_i, am_nI_i, am_kV_i, am_nV_i, ↓reduceIte, eq_self, if_true, if_false, c_in, c_tn, pn_add, pn_mul, pn_subc, pn_addm, c_le_t, c_le_f, c_lt_t, c_lt_f, c_eq_f, c_eqm, bi_z, bi_1, bi_b, bi_T, bi_F, ite_not, up_eq, up_ne, or_self, or_true, true_or, or_false, false_or, and_true, true_and, and_self, not_true_eq_false, not_false_eq_true, Bool.false_eq_true]
      exact a1
theorem xK_search {h : am_H} (J : jK h) (d : Nat) : ∃ h', am_cl (d + 4) qK_search [.ref 362] h = some (.inl none, h') ∧ h'.1 = h.1 ∧ h'.2 362 2 = (Int32.ofNat 1) ∧ (∀ p, p < 1024 → h'.2 363 p = kdist p) ∧ ∀ p, p < 362 → h'.2 p = h.2 p := by
  rcases J.2 with e | ⟨e, f⟩
  · obtain ⟨h1, n', qn', x3', a1, a2, a3, a4, a5⟩ := xK_search_3 (d + 3) 1024 0 0 (fun _ => 0) (am_up h 362 2 (Int32.ofNat 1)) .null (by omega) (by omega) rfl (fun p hp => by omega) (fun j hj => by omega) (fun p hp => by omega)
    obtain ⟨h', b1, b2, b3, b4⟩ := xK_search_15 d 1025 0 h1 (fun _ => 0) qn' kout n' x3' (by omega) a3 a4
    refine ⟨h', ?_, b2.trans a2, by rw [b4 362 (by omega) (by omega), a5 362 (by omega) (by omega)]; exact up_eq rfl rfl, b3, fun p hp => by rw [b4 p (by omega) (by omega), a5 p (by omega) (by omega), up_o (by omega)]⟩
    simp -implicitDefEqProofs (disch := (first | omega | assumption | exact am_isS_3 | exact am_isS_25 | exact am_isX_356 | exact am_isX_359)) only [uK_search, ggK_search_0, ggK_search_1, ggK_search_2, ggK_search_4, ggK_search_5, ggK_search_6, ggK_search_7, ggK_search_8, ggK_search_9, ggK_search_10, ggK_search_11, ggK_search_12, ggK_search_13, ggK_search_14, ggK_search_16, ggK_search_17, ggK_search_18, ccK_search_17_1, e, am_kI_x, am_kV_x, am_kI_i, am_nI_i, am_kV_i, am_nV_i, ↓reduceIte, eq_self, if_true, if_false, c_in, c_tn, pn_add, pn_mul, pn_subc, pn_addm, c_le_t, c_le_f, c_lt_t, c_lt_f, c_eq_f, c_eqm, bi_z, bi_1, bi_b, bi_T, bi_F, ite_not, up_eq, up_ne, or_self, or_true, true_or, or_false, false_or, and_true, true_and, and_self, not_true_eq_false, not_false_eq_true, Bool.false_eq_true]
    exact a1.trans b1
  · refine ⟨h, ?_, rfl, e, f, fun _ _ => rfl⟩
    simp -implicitDefEqProofs (disch := (first | omega | assumption | exact am_isS_3 | exact am_isS_25 | exact am_isX_356 | exact am_isX_359)) only [uK_search, ggK_search_0, ggK_search_1, ggK_search_2, ggK_search_4, ggK_search_5, ggK_search_6, ggK_search_7, ggK_search_8, ggK_search_9, ggK_search_10, ggK_search_11, ggK_search_12, ggK_search_13, ggK_search_14, ggK_search_16, ggK_search_17, ggK_search_18, ccK_search_17_1, e, am_kI_x, am_kV_x, am_kI_i, am_nI_i, am_kV_i, am_nV_i, ↓reduceIte, eq_self, if_true, if_false, c_in, c_tn, pn_add, pn_mul, pn_subc, pn_addm, c_le_t, c_le_f, c_lt_t, c_lt_f, c_eq_f, c_eqm, bi_z, bi_1, bi_b, bi_T, bi_F, ite_not, up_eq, up_ne, or_self, or_true, true_or, or_false, false_or, and_true, true_and, and_self, not_true_eq_false, not_false_eq_true, Bool.false_eq_true]
theorem pa_all : (List.range 1024).all (fun p => decide (Int32.ofNat p &&& Int32.ofNat 1023 = Int32.ofNat p)) = true := by decide +kernel
theorem pa_at {p : Nat} (hp : p < 1024) : (Int32.ofNat p) &&& (Int32.ofNat 1023) = (Int32.ofNat p) := of_decide_eq_true (List.all_eq_true.mp pa_all p (List.mem_range.mpr hp))
theorem xK_fewest {h : am_H} (J : jK h) {p : Nat} (hp : p < 1024) (d : Nat) : ∃ h', am_cl (d + 5) qK_fewest [.ref 362, .int (Int32.ofNat p)] h = some (.inl (some (kdist p)), h') ∧ h'.1 = h.1 ∧ h'.2 362 2 = (Int32.ofNat 1) ∧ (∀ p, p < 1024 → h'.2 363 p = kdist p) ∧ ∀ p, p < 362 → h'.2 p = h.2 p := by
  obtain ⟨h', a, b, c, e, f⟩ := xK_search J d
  refine ⟨h', ?_, b, c, e, f⟩
  have ep := pa_at hp
  have ed := e p hp
  simp -implicitDefEqProofs (disch := (first | omega | assumption | exact am_isS_3 | exact am_isS_25 | exact am_isX_356 | exact am_isX_359)) only [uK_fewest, ggK_fewest_0, ccK_fewest_0_1, a, ep, ed, am_kI_x, am_kV_x, am_kI_i, am_nI_i, am_kV_i, am_nV_i, ↓reduceIte, eq_self, if_true, if_false, c_in, c_tn, pn_add, pn_mul, pn_subc, pn_addm, c_le_t, c_le_f, c_lt_t, c_lt_f, c_eq_f, c_eqm, bi_z, bi_1, bi_b, bi_T, bi_F, ite_not, up_eq, up_ne, or_self, or_true, true_or, or_false, false_or, and_true, true_and, and_self, not_true_eq_false, not_false_eq_true, Bool.false_eq_true]
theorem xK_fewest2 {h : am_H} (e : h.2 362 2 = (Int32.ofNat 1)) (f : ∀ p, p < 1024 → h.2 363 p = kdist p) {p : Nat} (hp : p < 1024) (d : Nat) : am_cl (d + 5) qK_fewest [.ref 362, .int (Int32.ofNat p)] h = some (.inl (some (kdist p)), h) := by
  have ep := pa_at hp
  have ed := f p hp
  have es : ∀ d, am_cl (d + 4) qK_search [.ref 362] h = some (.inl none, h) := fun d => by simp -implicitDefEqProofs (disch := (first | omega | assumption | exact am_isS_3 | exact am_isS_25 | exact am_isX_356 | exact am_isX_359)) only [uK_search, ggK_search_0, ggK_search_1, ggK_search_2, ggK_search_4, ggK_search_5, ggK_search_6, ggK_search_7, ggK_search_8, ggK_search_9, ggK_search_10, ggK_search_11, ggK_search_12, ggK_search_13, ggK_search_14, ggK_search_16, ggK_search_17, ggK_search_18, ccK_search_17_1, e, am_kI_x, am_kV_x, am_kI_i, am_nI_i, am_kV_i, am_nV_i, ↓reduceIte, eq_self, if_true, if_false, c_in, c_tn, pn_add, pn_mul, pn_subc, pn_addm, c_le_t, c_le_f, c_lt_t, c_lt_f, c_eq_f, c_eqm, bi_z, bi_1, bi_b, bi_T, bi_F, ite_not, up_eq, up_ne, or_self, or_true, true_or, or_false, false_or, and_true, true_and, and_self, not_true_eq_false, not_false_eq_true, Bool.false_eq_true]
  simp -implicitDefEqProofs (disch := (first | omega | assumption | exact am_isS_3 | exact am_isS_25 | exact am_isX_356 | exact am_isX_359)) only [uK_fewest, ggK_fewest_0, ccK_fewest_0_1, es, ep, ed, am_kI_x, am_kV_x, am_kI_i, am_nI_i, am_kV_i, am_nV_i, ↓reduceIte, eq_self, if_true, if_false, c_in, c_tn, pn_add, pn_mul, pn_subc, pn_addm, c_le_t, c_le_f, c_lt_t, c_lt_f, c_eq_f, c_eqm, bi_z, bi_1, bi_b, bi_T, bi_F, ite_not, up_eq, up_ne, or_self, or_true, true_or, or_false, false_or, and_true, true_and, and_self, not_true_eq_false, not_false_eq_true, Bool.false_eq_true]
/-- the first of the fewest moves, as the class tells it -/
def lfP (s m : Nat) : Bool := kmv s m && decide (kdist (kgo s m) = kdist s - (Int32.ofNat 1))
def lfN (s : Nat) : Int32 := if kdist s ≤ (Int32.ofNat 0) then -1 else if anyN (lfP s) 10 = true then (Int32.ofNat (fo (lfP s) 10)) else -1
theorem xK_leastFirst {h : am_H} (J : jK h) {s : Nat} (hs : s < 1024) (d : Nat) : ∃ h', am_cl (d + 6) qK_leastFirst [.ref 362, .int (Int32.ofNat s)] h = some (.inl (some (lfN s)), h') ∧ h'.1 = h.1 ∧ h'.2 362 2 = (Int32.ofNat 1) ∧ (∀ p, p < 1024 → h'.2 363 p = kdist p) ∧ ∀ p, p < 362 → h'.2 p = h.2 p := by
  obtain ⟨h', a, b, c, e, f⟩ := xK_fewest J hs d
  refine ⟨h', ?_, b, c, e, f⟩
  have l : ∀ k m, m + k = 10 → (∀ m', m' < m → ¬ lfP s m' = true) → ¬ kdist s ≤ (Int32.ofNat 0) → am_go (am_cl (d + 5)) qK_leastFirst 1 [.ref 362, .int (Int32.ofNat s), .int (kdist s), .int (Int32.ofNat m)] [] h' = some (.inl (some (lfN s)), h') := by
    intro k
    induction k with
    | zero =>
      intro m hm hn h0
      have hm : m = 10 := by omega
      subst hm
      have ha : ¬ anyN (lfP s) 10 = true := fun q => by
        obtain ⟨i, i1, i2⟩ := anyN_iff.mp q
        exact hn i i1 i2
      unfold lfN
      rw [if_neg h0, if_neg ha, ggK_leastFirst_1]
      simp -implicitDefEqProofs (disch := (first | omega | assumption | exact am_isS_3 | exact am_isS_25 | exact am_isX_356 | exact am_isX_359)) only [ggK_leastFirst_0, ggK_leastFirst_2, ggK_leastFirst_3, ggK_leastFirst_4, ggK_leastFirst_5, ggK_leastFirst_6, ggK_leastFirst_7, ccK_leastFirst_0_1, ccK_leastFirst_3_1, ccK_leastFirst_4_1, h0, am_kI_x, am_kV_x, am_kI_i, am_nI_i, am_kV_i, am_nV_i, ↓reduceIte, eq_self, if_true, if_false, c_in, c_tn, pn_add, pn_mul, pn_subc, pn_addm, c_le_t, c_le_f, c_lt_t, c_lt_f, c_eq_f, c_eqm, bi_z, bi_1, bi_b, bi_T, bi_F, ite_not, up_eq, up_ne, or_self, or_true, true_or, or_false, false_or, and_true, true_and, and_self, not_true_eq_false, not_false_eq_true, Bool.false_eq_true]
    | succ k ih =>
      intro m hm hn h0
      have hm10 : m < 10 := by omega
      obtain ⟨r1, r2, r3, r4⟩ := kgo_at hs hm10
      have em := fun d => xK_isMove hs hm10 d h'
      have ek := fun d => xK_fewest2 c e r1 d
      by_cases hq : lfP s m = true
      · have hfo : fo (lfP s) 10 = m := fo_un hm10 hq hn
        have ha : anyN (lfP s) 10 = true := anyN_iff.mpr ⟨m, hm10, hq⟩
        unfold lfN
        rw [if_neg h0, if_pos ha, hfo, ggK_leastFirst_1]
        unfold lfP at hq
        rw [Bool.and_eq_true, decide_eq_true_eq] at hq
        rw [bi_t hq.1] at em
        have hq2 := hq.2
        simp -implicitDefEqProofs (disch := (first | omega | assumption | exact am_isS_3 | exact am_isS_25 | exact am_isX_356 | exact am_isX_359)) only [ggK_leastFirst_0, ggK_leastFirst_2, ggK_leastFirst_3, ggK_leastFirst_4, ggK_leastFirst_5, ggK_leastFirst_6, ggK_leastFirst_7, ccK_leastFirst_0_1, ccK_leastFirst_3_1, ccK_leastFirst_4_1, h0, em, r4, ek, hq2, am_kI_x, am_kV_x, am_kI_i, am_nI_i, am_kV_i, am_nV_i, ↓reduceIte, eq_self, if_true, if_false, c_in, c_tn, pn_add, pn_mul, pn_subc, pn_addm, c_le_t, c_le_f, c_lt_t, c_lt_f, c_eq_f, c_eqm, bi_z, bi_1, bi_b, bi_T, bi_F, ite_not, up_eq, up_ne, or_self, or_true, true_or, or_false, false_or, and_true, true_and, and_self, not_true_eq_false, not_false_eq_true, Bool.false_eq_true]
      · have ih := ih (m + 1) (by omega) (fun m' h1 => by
          by_cases z : m' = m
          · rw [z]; exact hq
          · exact hn m' (by omega)) h0
        rw [ggK_leastFirst_1]
        by_cases hk : kmv s m = true
        · have hq2 : ¬ kdist (kgo s m) = kdist s - (Int32.ofNat 1) := fun q => hq (by unfold lfP; rw [hk, decide_eq_true q]; rfl)
          rw [bi_t hk] at em
          simp -implicitDefEqProofs (disch := (first | omega | assumption | exact am_isS_3 | exact am_isS_25 | exact am_isX_356 | exact am_isX_359)) only [ggK_leastFirst_0, ggK_leastFirst_2, ggK_leastFirst_3, ggK_leastFirst_4, ggK_leastFirst_5, ggK_leastFirst_6, ggK_leastFirst_7, ccK_leastFirst_0_1, ccK_leastFirst_3_1, ccK_leastFirst_4_1, h0, em, r4, ek, hq2, am_kI_x, am_kV_x, am_kI_i, am_nI_i, am_kV_i, am_nV_i, ↓reduceIte, eq_self, if_true, if_false, c_in, c_tn, pn_add, pn_mul, pn_subc, pn_addm, c_le_t, c_le_f, c_lt_t, c_lt_f, c_eq_f, c_eqm, bi_z, bi_1, bi_b, bi_T, bi_F, ite_not, up_eq, up_ne, or_self, or_true, true_or, or_false, false_or, and_true, true_and, and_self, not_true_eq_false, not_false_eq_true, Bool.false_eq_true]
          exact ih
        · rw [bi_f hk] at em
          simp -implicitDefEqProofs (disch := (first | omega | assumption | exact am_isS_3 | exact am_isS_25 | exact am_isX_356 | exact am_isX_359)) only [ggK_leastFirst_0, ggK_leastFirst_2, ggK_leastFirst_3, ggK_leastFirst_4, ggK_leastFirst_5, ggK_leastFirst_6, ggK_leastFirst_7, ccK_leastFirst_0_1, ccK_leastFirst_3_1, ccK_leastFirst_4_1, h0, em, am_kI_x, am_kV_x, am_kI_i, am_nI_i, am_kV_i, am_nV_i, ↓reduceIte, eq_self, if_true, if_false, c_in, c_tn, pn_add, pn_mul, pn_subc, pn_addm, c_le_t, c_le_f, c_lt_t, c_lt_f, c_eq_f, c_eqm, bi_z, bi_1, bi_b, bi_T, bi_F, ite_not, up_eq, up_ne, or_self, or_true, true_or, or_false, false_or, and_true, true_and, and_self, not_true_eq_false, not_false_eq_true, Bool.false_eq_true]
          exact ih
  by_cases h0 : kdist s ≤ (Int32.ofNat 0)
  · unfold lfN
    rw [if_pos h0]
    simp -implicitDefEqProofs (disch := (first | omega | assumption | exact am_isS_3 | exact am_isS_25 | exact am_isX_356 | exact am_isX_359)) only [uK_leastFirst, ggK_leastFirst_1, ggK_leastFirst_0, ggK_leastFirst_2, ggK_leastFirst_3, ggK_leastFirst_4, ggK_leastFirst_5, ggK_leastFirst_6, ggK_leastFirst_7, ccK_leastFirst_0_1, ccK_leastFirst_3_1, ccK_leastFirst_4_1, a, h0, am_kI_x, am_kV_x, am_kI_i, am_nI_i, am_kV_i, am_nV_i, ↓reduceIte, eq_self, if_true, if_false, c_in, c_tn, pn_add, pn_mul, pn_subc, pn_addm, c_le_t, c_le_f, c_lt_t, c_lt_f, c_eq_f, c_eqm, bi_z, bi_1, bi_b, bi_T, bi_F, ite_not, up_eq, up_ne, or_self, or_true, true_or, or_false, false_or, and_true, true_and, and_self, not_true_eq_false, not_false_eq_true, Bool.false_eq_true]
  · have l := l 10 0 (by omega) (fun m' h1 => by omega) h0
    simp -implicitDefEqProofs (disch := (first | omega | assumption | exact am_isS_3 | exact am_isS_25 | exact am_isX_356 | exact am_isX_359)) only [uK_leastFirst, ggK_leastFirst_0, ggK_leastFirst_2, ggK_leastFirst_3, ggK_leastFirst_4, ggK_leastFirst_5, ggK_leastFirst_6, ggK_leastFirst_7, ccK_leastFirst_0_1, ccK_leastFirst_3_1, ccK_leastFirst_4_1, a, am_kI_x, am_kV_x, am_kI_i, am_nI_i, am_kV_i, am_nV_i, ↓reduceIte, eq_self, if_true, if_false, c_in, c_tn, pn_add, pn_mul, pn_subc, pn_addm, c_le_t, c_le_f, c_lt_t, c_lt_f, c_eq_f, c_eqm, bi_z, bi_1, bi_b, bi_T, bi_F, ite_not, up_eq, up_ne, or_self, or_true, true_or, or_false, false_or, and_true, true_and, and_self, not_true_eq_false, not_false_eq_true, Bool.false_eq_true]
    exact l
