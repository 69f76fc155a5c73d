/-! things put to wishes: how many, by things -/
def ws (W : Nat → Int32) (N o t : Nat) : Bool := decide (o < N) && decide (W (43 + 9 * o + 4) = (Int32.ofNat t))
theorem ws_iff {W : Nat → Int32} {N c t : Nat} : ws W N c t = true ↔ c < N ∧ W (43 + 9 * c + 4) = (Int32.ofNat t) := by
  unfold ws
  rw [Bool.and_eq_true, decide_eq_true_eq, decide_eq_true_eq]
theorem ws_one {W : Nat → Int32} {N c t t' : Nat} (ht : t < 8) (ht' : t' < 8) (h : ws W N c t = true) (h' : ws W N c t' = true) : t = t' := by
  have a := (ws_iff.mp h).2
  rw [(ws_iff.mp h').2] at a
  exact ((pn_eq (by omega) (by omega)).mp a).symm
def KT (W : Nat → Int32) (N c t : Nat) : Nat := cnt (fun c' => decide (c ≤ c') && kt W N c' t) 8
def FT (W : Nat → Int32) (N m t : Nat) : Nat := cnt (fun o => ws W N o t && !m.testBit o) 8
def VG (W : Nat → Int32) (N c m : Nat) : Nat := nsum (fun t => min (KT W N c t) (FT W N m t)) 8
theorem KT_S {W : Nat → Int32} {N c t : Nat} (hc : c < 8) : KT W N c t = KT W N (c + 1) t + (if kt W N c t = true then 1 else 0) := by
  unfold KT
  by_cases hk : kt W N c t = true
  · rw [if_pos hk]
    exact cnt_set (c := c) (by rw [decide_eq_false (by omega), Bool.false_and]) (by rw [decide_eq_true (Nat.le_refl _), Bool.true_and]; exact hk) (fun j _ hj => by
      congr 1
      exact decide_eq_decide.mpr (by omega)) hc
  · rw [if_neg hk, Nat.add_zero]
    refine cnt_congr (fun j _ => ?_)
    by_cases hj : j = c
    · rw [hj, Bool.eq_false_iff.mpr hk, Bool.and_false, Bool.and_false]
    · congr 1
      exact decide_eq_decide.mpr (by omega)
theorem KT_N {W : Nat → Int32} {N t : Nat} : KT W N N t = 0 := by
  unfold KT
  have : ∀ n, cnt (fun c' => decide (N ≤ c') && kt W N c' t) n = 0 := by
    intro n
    induction n with
    | zero => rfl
    | succ n ih =>
      have hf : (decide (N ≤ n) && kt W N n t) = false := by
        by_cases h : N ≤ n
        · have : ¬ kt W N n t = true := fun q => by have := (kt_iff.mp q).1; omega
          rw [Bool.eq_false_iff.mpr this, Bool.and_false]
        · rw [decide_eq_false h, Bool.false_and]
      rw [cnt_S, ih, hf]
      rfl
  exact this 8
theorem or_bit {m o c : Nat} : (m ||| 2 ^ o).testBit c = (m.testBit c || decide (o = c)) := by
  rw [Nat.testBit_or, Nat.testBit_two_pow]
theorem FT_S {W : Nat → Int32} {N m o t : Nat} (ho : o < 8) (hm : m.testBit o = false) : FT W N m t = FT W N (m ||| 2 ^ o) t + (if ws W N o t = true then 1 else 0) := by
  unfold FT
  by_cases hk : ws W N o t = true
  · rw [if_pos hk]
    exact cnt_set (c := o) (by rw [or_bit, decide_eq_true rfl, Bool.or_true]; simp) (by rw [hk, hm]; rfl) (fun j _ hj => by rw [or_bit, decide_eq_false (fun q => hj q.symm), Bool.or_false]) ho
  · rw [if_neg hk, Nat.add_zero]
    refine cnt_congr (fun j _ => ?_)
    by_cases hj : j = o
    · rw [hj, Bool.eq_false_iff.mpr hk, Bool.false_and, Bool.false_and]
    · rw [or_bit, decide_eq_false (fun q => hj q.symm), Bool.or_false]
theorem VG_le {W : Nat → Int32} {N c m : Nat} : VG W N c m ≤ 64 := Nat.le_trans (nsum_le (b := 8) (fun t _ => by
  have : KT W N c t ≤ 8 := cnt_le 8
  omega)) (by omega)
theorem VG_N {W : Nat → Int32} {N m : Nat} : VG W N N m = 0 := nsum_z (fun t _ => by
  show min (KT W N N t) _ = 0
  rw [KT_N]; omega)
theorem VG_mono {W : Nat → Int32} {N c m : Nat} (hc : c < 8) : VG W N (c + 1) m ≤ VG W N c m := nsum_mono (fun t _ => by
  rw [KT_S hc]
  split <;> omega)
theorem VG_no {W : Nat → Int32} {N c m : Nat} (hc : c < 8) (h : ∀ t, t < 8 → kt W N c t = true → ∀ o, o < 8 → ws W N o t = true → m.testBit o = true) : VG W N c m = VG W N (c + 1) m := nsum_congr (fun t ht => by
  show min (KT W N c t) (FT W N m t) = min (KT W N (c + 1) t) (FT W N m t)
  by_cases hk : kt W N c t = true
  · have hF : FT W N m t = 0 := by
      unfold FT
      have : ∀ n, n ≤ 8 → cnt (fun o => ws W N o t && !m.testBit o) n = 0 := by
        intro n
        induction n with
        | zero => intro _; rfl
        | succ n ih =>
          intro hn
          have hf : (ws W N n t && !m.testBit n) = false := by
            by_cases hw : ws W N n t = true
            · rw [h t ht hk n (by omega) hw]; simp
            · rw [Bool.eq_false_iff.mpr hw, Bool.false_and]
          rw [cnt_S, ih (by omega), hf]
          rfl
      exact this 8 (Nat.le_refl _)
    rw [hF]; omega
  · rw [KT_S hc, if_neg hk, Nat.add_zero])
theorem VG_yes {W : Nat → Int32} {N c m k o : Nat} (hc : c < 8) (hk8 : k < 8) (ho : o < 8) (hk : kt W N c k = true) (hw : ws W N o k = true) (hm : m.testBit o = false) : VG W N c m = 1 + VG W N (c + 1) (m ||| 2 ^ o) := by
  have h1 : VG W N c m = nsum (fun t => min (KT W N (c + 1) t) (FT W N (m ||| 2 ^ o) t) + (if t = k then 1 else 0)) 8 := nsum_congr (fun t ht => by
    show min (KT W N c t) (FT W N m t) = _
    rw [KT_S hc, FT_S ho hm]
    by_cases q : t = k
    · subst q
      rw [if_pos hk, if_pos hw, if_pos rfl]; omega
    · have a : ¬ kt W N c t = true := fun z => q (kt_one ht hk8 z hk)
      have b : ¬ ws W N o t = true := fun z => q (ws_one ht hk8 z hw)
      rw [if_neg a, if_neg b, if_neg q]; omega)
  rw [h1, nsum_add, nsum_one (t := k) hk8 (fun i _ hne => if_neg hne), if_pos rfl, Nat.add_comm]
  rfl
/-! the reference's table -/
theorem ga_all : (List.range 9).all (fun c => decide (Int32.ofNat c <<< (Int32.ofNat 8 &&& Int32.ofNat 31) = Int32.ofNat (c * 256))) = true := by decide +kernel
theorem rR_givenAt {c : Nat} (hc : c ≤ 8) (m d : Nat) (h : am_H) : am_cl (d + 1) qR_givenAt [.int (Int32.ofNat c), .int (Int32.ofNat m)] h = some (.inl (some ((Int32.ofNat (c * 256 + m)))), h) := by
  have e : (Int32.ofNat c) <<< ((Int32.ofNat 8) &&& (Int32.ofNat 31)) = (Int32.ofNat (c * 256)) := of_decide_eq_true (List.all_eq_true.mp ga_all c (List.mem_range.mpr (by omega)))
  simp -implicitDefEqProofs (disch := (first | omega | assumption | exact am_isS_3 | exact am_isS_25 | exact am_isX_356 | exact am_isX_359)) only [uR_givenAt, ggR_givenAt_0, e, am_kI_x, am_kV_x, am_kI_i, am_nI_i, am_kV_i, am_nV_i, ↓reduceIte, eq_self, if_true, if_false, c_in, c_tn, pn_add, pn_mul, pn_subc, pn_addm, c_le_t, c_le_f, c_lt_t, c_lt_f, c_eq_f, c_eqm, bi_z, bi_1, bi_b, bi_T, bi_F, ite_not, up_eq, up_ne, or_self, or_true, true_or, or_false, false_or, and_true, true_and, and_self, not_true_eq_false, not_false_eq_true, Bool.false_eq_true]
theorem ob_all : (List.range 256).all (fun m => (List.range 8).all (fun o => decide (Int32.ofNat m ||| (Int32.ofNat 1 <<< (Int32.ofNat o &&& Int32.ofNat 31)) = Int32.ofNat (m ||| 2 ^ o)) && decide (m ||| 2 ^ o < 256))) = true := by decide +kernel
theorem ob_at {m o : Nat} (hm : m < 256) (ho : o < 8) : (Int32.ofNat m) ||| ((Int32.ofNat 1) <<< ((Int32.ofNat o) &&& (Int32.ofNat 31))) = (Int32.ofNat (m ||| 2 ^ o)) ∧ m ||| 2 ^ o < 256 := by
  have := List.all_eq_true.mp (List.all_eq_true.mp ob_all m (List.mem_range.mpr hm)) o (List.mem_range.mpr ho)
  rw [Bool.and_eq_true] at this
  exact ⟨of_decide_eq_true this.1, of_decide_eq_true this.2⟩
/-- whether c can give to o, those of m having got -/
def avG (W : Nat → Int32) (N c m o : Nat) : Bool := anyN (fun t => kt W N c t && ws W N o t) 8 && !m.testBit o
theorem avG_iff {W : Nat → Int32} {N c m o : Nat} : avG W N c m o = true ↔ (∃ t, t < 8 ∧ kt W N c t = true ∧ ws W N o t = true) ∧ m.testBit o = false := by
  unfold avG
  rw [Bool.and_eq_true, anyN_iff]
  constructor
  · rintro ⟨⟨t, ht, h⟩, h2⟩
    rw [Bool.and_eq_true] at h
    exact ⟨⟨t, ht, h.1, h.2⟩, by simpa using h2⟩
  · rintro ⟨⟨t, ht, h1, h2⟩, h3⟩
    exact ⟨⟨t, ht, by rw [Bool.and_eq_true]; exact ⟨h1, h2⟩⟩, by rw [h3]; rfl⟩
theorem rR_mayGive {h : am_H} {N c o : Nat} (hN : N ≤ 8) (hc : c < N) (ho : o < N) (hW : ∀ c, c < N → rm (h.2 374 (43 + 9 * c + 5)) 8) (d : Nat) : am_cl (d + 4) qR_mayGive [.ref 373, .int (Int32.ofNat c), .int (Int32.ofNat o)] h = some (.inl (some (bi (anyN (fun t => kt (h.2 374) N c t && ws (h.2 374) N o t) 8 = true))), h) := by
  rcases hW c hc with e | ⟨k, hk, e⟩
  · rw [bi_f (fun q => by
      obtain ⟨t, ht, z⟩ := anyN_iff.mp q
      rw [Bool.and_eq_true] at z
      have := (kt_iff.mp z.1).2
      rw [e] at this
      have h2 := c_eqm (a := t) (by omega)
      rw [← this] at h2
      simp at h2)]
    simp -implicitDefEqProofs (disch := (first | omega | assumption | exact am_isS_3 | exact am_isS_25 | exact am_isX_356 | exact am_isX_359)) only [uR_mayGive, ggR_mayGive_0, ggR_mayGive_1, ggR_mayGive_2, ggR_mayGive_3, ggR_mayGive_4, ccR_mayGive_0_1, ccR_mayGive_1_2, ccR_mayGive_1_1, rR_keeps, e, am_kI_x, am_kV_x, am_kI_i, am_nI_i, am_kV_i, am_nV_i, ↓reduceIte, eq_self, if_true, if_false, c_in, c_tn, pn_add, pn_mul, pn_subc, pn_addm, c_le_t, c_le_f, c_lt_t, c_lt_f, c_eq_f, c_eqm, bi_z, bi_1, bi_b, bi_T, bi_F, ite_not, up_eq, up_ne, or_self, or_true, true_or, or_false, false_or, and_true, true_and, and_self, not_true_eq_false, not_false_eq_true, Bool.false_eq_true]
  · have hne : ¬ ((Int32.ofNat k) : Int32) = -1 := by rw [c_eqm (by omega)]; exact fun z => z
    by_cases hq : h.2 374 (43 + 9 * o + 4) = (Int32.ofNat k)
    · rw [bi_t (anyN_iff.mpr ⟨k, hk, by rw [Bool.and_eq_true]; exact ⟨kt_iff.mpr ⟨hc, e⟩, ws_iff.mpr ⟨ho, hq⟩⟩⟩)]
      simp -implicitDefEqProofs (disch := (first | omega | assumption | exact am_isS_3 | exact am_isS_25 | exact am_isX_356 | exact am_isX_359)) only [uR_mayGive, ggR_mayGive_0, ggR_mayGive_1, ggR_mayGive_2, ggR_mayGive_3, ggR_mayGive_4, ccR_mayGive_0_1, ccR_mayGive_1_2, ccR_mayGive_1_1, rR_keeps, rR_of, e, hq, am_kI_x, am_kV_x, am_kI_i, am_nI_i, am_kV_i, am_nV_i, ↓reduceIte, eq_self, if_true, if_false, c_in, c_tn, pn_add, pn_mul, pn_subc, pn_addm, c_le_t, c_le_f, c_lt_t, c_lt_f, c_eq_f, c_eqm, bi_z, bi_1, bi_b, bi_T, bi_F, ite_not, up_eq, up_ne, or_self, or_true, true_or, or_false, false_or, and_true, true_and, and_self, not_true_eq_false, not_false_eq_true, Bool.false_eq_true]
    · rw [bi_f (fun q => by
        obtain ⟨t, ht, z⟩ := anyN_iff.mp q
        rw [Bool.and_eq_true] at z
        have a := (kt_iff.mp z.1).2
        rw [e] at a
        have b := (ws_iff.mp z.2).2
        rw [← a] at b
        exact hq b)]
      simp -implicitDefEqProofs (disch := (first | omega | assumption | exact am_isS_3 | exact am_isS_25 | exact am_isX_356 | exact am_isX_359)) only [uR_mayGive, ggR_mayGive_0, ggR_mayGive_1, ggR_mayGive_2, ggR_mayGive_3, ggR_mayGive_4, ccR_mayGive_0_1, ccR_mayGive_1_2, ccR_mayGive_1_1, rR_keeps, rR_of, e, hq, am_kI_x, am_kV_x, am_kI_i, am_nI_i, am_kV_i, am_nV_i, ↓reduceIte, eq_self, if_true, if_false, c_in, c_tn, pn_add, pn_mul, pn_subc, pn_addm, c_le_t, c_le_f, c_lt_t, c_lt_f, c_eq_f, c_eqm, bi_z, bi_1, bi_b, bi_T, bi_F, ite_not, up_eq, up_ne, or_self, or_true, true_or, or_false, false_or, and_true, true_and, and_self, not_true_eq_false, not_false_eq_true, Bool.false_eq_true]
/-- the table holds what it should for all children from c on -/
def tblG (h : am_H) (W : Nat → Int32) (N c : Nat) : Prop := ∀ c' m, c ≤ c' → c' ≤ N → m < 256 → h.2 385 (c' * 256 + m) = (Int32.ofNat (VG W N c' m))
theorem rR_givenBy {h : am_H} {N c m o : Nat} (hN : N ≤ 8) (e0 : h.2 374 0 = (Int32.ofNat N)) (hc : c < N) (hm : m < 256) (ho : o < N) (hW : ∀ c, c < N → rm (h.2 374 (43 + 9 * c + 5)) 8) (T : tblG h (h.2 374) N (c + 1)) (d : Nat) : am_cl (d + 5) qR_givenBy [.ref 373, .int (Int32.ofNat c), .int (Int32.ofNat m), .int (Int32.ofNat o)] h = some (.inl (some (if avG (h.2 374) N c m o = true then (Int32.ofNat (VG (h.2 374) N c m)) else -1)), h) := by
  have hb := has_m (m := m) (c := o) (by omega)
  have eg := fun d => rR_mayGive hN hc ho hW d
  obtain ⟨o1, o2⟩ := ob_at hm (o := o) (by omega)
  have l1 := VG_le (W := h.2 374) (N := N) (c := c + 1) (m := m ||| 2 ^ o)
  have et := T (c + 1) (m ||| 2 ^ o) (Nat.le_refl _) (by omega) o2
  by_cases hbit : m.testBit o = true
  · rw [if_neg (fun q => by rw [(avG_iff.mp q).2] at hbit; exact absurd hbit (by decide))]
    simp -implicitDefEqProofs (disch := (first | omega | assumption | exact am_isS_3 | exact am_isS_25 | exact am_isX_356 | exact am_isX_359)) only [uR_givenBy, ggR_givenBy_0, ggR_givenBy_1, ggR_givenBy_2, ggR_givenBy_3, ggR_givenBy_4, ggR_givenBy_5, ggR_givenBy_6, ccR_givenBy_0_1, ccR_givenBy_1_1, ccR_givenBy_2_1, ccR_givenBy_3_1, ccR_givenBy_5_1, rR_children, e0, rR_has, hb, hbit, am_kI_x, am_kV_x, am_kI_i, am_nI_i, am_kV_i, am_nV_i, ↓reduceIte, eq_self, if_true, if_false, c_in, c_tn, pn_add, pn_mul, pn_subc, pn_addm, c_le_t, c_le_f, c_lt_t, c_lt_f, c_eq_f, c_eqm, bi_z, bi_1, bi_b, bi_T, bi_F, ite_not, up_eq, up_ne, or_self, or_true, true_or, or_false, false_or, and_true, true_and, and_self, not_true_eq_false, not_false_eq_true, Bool.false_eq_true]
  · have hbf := Bool.eq_false_iff.mpr hbit
    by_cases ha : anyN (fun t => kt (h.2 374) N c t && ws (h.2 374) N o t) 8 = true
    · have hv : avG (h.2 374) N c m o = true := by unfold avG; rw [ha, hbf]; rfl
      obtain ⟨⟨t, ht, h1, h2⟩, -⟩ := avG_iff.mp hv
      have vy := VG_yes (by omega) ht (by omega) h1 h2 hbf
      rw [bi_t ha] at eg
      rw [if_pos hv, vy]
      simp -implicitDefEqProofs (disch := (first | omega | assumption | exact am_isS_3 | exact am_isS_25 | exact am_isX_356 | exact am_isX_359)) only [uR_givenBy, ggR_givenBy_0, ggR_givenBy_1, ggR_givenBy_2, ggR_givenBy_3, ggR_givenBy_4, ggR_givenBy_5, ggR_givenBy_6, ccR_givenBy_0_1, ccR_givenBy_1_1, ccR_givenBy_2_1, ccR_givenBy_3_1, ccR_givenBy_5_1, rR_children, e0, rR_has, hb, hbit, eg, o1, rR_givenAt, et, am_kI_x, am_kV_x, am_kI_i, am_nI_i, am_kV_i, am_nV_i, ↓reduceIte, eq_self, if_true, if_false, c_in, c_tn, pn_add, pn_mul, pn_subc, pn_addm, c_le_t, c_le_f, c_lt_t, c_lt_f, c_eq_f, c_eqm, bi_z, bi_1, bi_b, bi_T, bi_F, ite_not, up_eq, up_ne, or_self, or_true, true_or, or_false, false_or, and_true, true_and, and_self, not_true_eq_false, not_false_eq_true, Bool.false_eq_true]
    · have hv : ¬ avG (h.2 374) N c m o = true := by unfold avG; rw [Bool.eq_false_iff.mpr ha, Bool.false_and]; decide
      rw [bi_f ha] at eg
      rw [if_neg hv]
      simp -implicitDefEqProofs (disch := (first | omega | assumption | exact am_isS_3 | exact am_isS_25 | exact am_isX_356 | exact am_isX_359)) only [uR_givenBy, ggR_givenBy_0, ggR_givenBy_1, ggR_givenBy_2, ggR_givenBy_3, ggR_givenBy_4, ggR_givenBy_5, ggR_givenBy_6, ccR_givenBy_0_1, ccR_givenBy_1_1, ccR_givenBy_2_1, ccR_givenBy_3_1, ccR_givenBy_5_1, rR_children, e0, rR_has, hb, hbit, eg, am_kI_x, am_kV_x, am_kI_i, am_nI_i, am_kV_i, am_nV_i, ↓reduceIte, eq_self, if_true, if_false, c_in, c_tn, pn_add, pn_mul, pn_subc, pn_addm, c_le_t, c_le_f, c_lt_t, c_lt_f, c_eq_f, c_eqm, bi_z, bi_1, bi_b, bi_T, bi_F, ite_not, up_eq, up_ne, or_self, or_true, true_or, or_false, false_or, and_true, true_and, and_self, not_true_eq_false, not_false_eq_true, Bool.false_eq_true]
theorem rR_givenByN {h : am_H} {N c m : Nat} (hN : N ≤ 8) (e0 : h.2 374 0 = (Int32.ofNat N)) (hc : c < N) (hm : m < 256) (T : tblG h (h.2 374) N (c + 1)) (d : Nat) : am_cl (d + 5) qR_givenBy [.ref 373, .int (Int32.ofNat c), .int (Int32.ofNat m), .int (Int32.ofNat N)] h = some (.inl (some ((Int32.ofNat (VG (h.2 374) N (c + 1) m)))), h) := by
  have et := T (c + 1) m (Nat.le_refl _) (by omega) hm
  simp -implicitDefEqProofs (disch := (first | omega | assumption | exact am_isS_3 | exact am_isS_25 | exact am_isX_356 | exact am_isX_359)) only [uR_givenBy, ggR_givenBy_0, ggR_givenBy_1, ggR_givenBy_2, ggR_givenBy_3, ggR_givenBy_4, ggR_givenBy_5, ggR_givenBy_6, ccR_givenBy_0_1, ccR_givenBy_1_1, ccR_givenBy_2_1, ccR_givenBy_3_1, ccR_givenBy_5_1, rR_children, e0, rR_givenAt, et, am_kI_x, am_kV_x, am_kI_i, am_nI_i, am_kV_i, am_nV_i, ↓reduceIte, eq_self, if_true, if_false, c_in, c_tn, pn_add, pn_mul, pn_subc, pn_addm, c_le_t, c_le_f, c_lt_t, c_lt_f, c_eq_f, c_eqm, bi_z, bi_1, bi_b, bi_T, bi_F, ite_not, up_eq, up_ne, or_self, or_true, true_or, or_false, false_or, and_true, true_and, and_self, not_true_eq_false, not_false_eq_true, Bool.false_eq_true]
theorem max_m1 {a : Nat} (ha : a < 2147483648) : am_max (Int32.ofNat a) (-1) = (Int32.ofNat a) := by
  unfold am_max
  rw [if_neg (fun q => by
    rw [Int32.lt_iff_toInt_lt, pn_toInt ha] at q
    have : ((-1 : Int32)).toInt = -1 := by decide
    omega)]
theorem lays_8 {h : am_H} {N c m : Nat} (hN : N ≤ 8) (e0 : h.2 374 0 = (Int32.ofNat N)) (hc : c < N) (hm : m < 256) (hW : ∀ c, c < N → rm (h.2 374 (43 + 9 * c + 5)) 8) (T : tblG h (h.2 374) N (c + 1)) (d : Nat) : ∀ (k o x : Nat), o + k = N + 1 → x ≤ VG (h.2 374) N c m → ((∃ o', o' < o ∧ o' < N ∧ avG (h.2 374) N c m o' = true) → x = VG (h.2 374) N c m) → (o = N + 1 → x = VG (h.2 374) N c m) → am_go (am_cl (d + 5)) qR_laysGiven 8 [.ref 373, .int (Int32.ofNat c), .int (Int32.ofNat m), .int (Int32.ofNat x), .int (Int32.ofNat o)] [] h = am_go (am_cl (d + 5)) qR_laysGiven 6 [.ref 373, .int (Int32.ofNat c), .int (Int32.ofNat (m + 1)), .int (Int32.ofNat (VG (h.2 374) N c m)), .int (Int32.ofNat (N + 1))] [] (am_up h 385 (c * 256 + m) (Int32.ofNat (VG (h.2 374) N c m))) := by
  intro k
  have vl := VG_le (W := h.2 374) (N := N) (c := c) (m := m)
  induction k with
  | zero =>
    intro o x ho hx _ hq
    have ho : o = N + 1 := by omega
    have hq2 := hq ho
    subst ho
    rw [hq2, ggR_laysGiven_8]
    simp -implicitDefEqProofs (disch := (first | omega | assumption | exact am_isS_3 | exact am_isS_25 | exact am_isX_356 | exact am_isX_359)) only [ggR_laysGiven_0, ggR_laysGiven_2, ggR_laysGiven_3, ggR_laysGiven_5, ggR_laysGiven_7, ggR_laysGiven_9, ggR_laysGiven_10, ggR_laysGiven_11, ggR_laysGiven_12, ccR_laysGiven_2_2, ccR_laysGiven_2_1, ccR_laysGiven_3_1, ccR_laysGiven_8_1, ccR_laysGiven_9_1, ccR_laysGiven_10_1, rR_children, e0, rR_givenAt, am_kI_x, am_kV_x, am_kI_i, am_nI_i, am_kV_i, am_nV_i, ↓reduceIte, eq_self, if_true, if_false, c_in, c_tn, pn_add, pn_mul, pn_subc, pn_addm, c_le_t, c_le_f, c_lt_t, c_lt_f, c_eq_f, c_eqm, bi_z, bi_1, bi_b, bi_T, bi_F, ite_not, up_eq, up_ne, or_self, or_true, true_or, or_false, false_or, and_true, true_and, and_self, not_true_eq_false, not_false_eq_true, Bool.false_eq_true]
  | succ k ih =>
    intro o x ho hx hq _
    by_cases hoN : o = N
    · subst hoN
      have eN := fun d => rR_givenByN hN e0 hc hm T d
      have vm := VG_mono (W := h.2 374) (N := o) (c := c) (m := m) (by omega)
      have hfin : max x (VG (h.2 374) o (c + 1) m) = VG (h.2 374) o c m := by
        by_cases hex : ∃ o', o' < o ∧ o' < o ∧ avG (h.2 374) o c m o' = true
        · have := hq hex; omega
        · have := VG_no (W := h.2 374) (N := o) (c := c) (m := m) (by omega) (fun t ht h1 o' ho' h2 => by
            cases hb : m.testBit o' with
            | true => rfl
            | false => exact absurd ⟨o', (ws_iff.mp h2).1, (ws_iff.mp h2).1, avG_iff.mpr ⟨⟨t, ht, h1, h2⟩, hb⟩⟩ hex)
          omega
      have ih := ih (o + 1) (VG (h.2 374) o c m) (by omega) (Nat.le_refl _) (fun _ => rfl) (fun _ => rfl)
      have v2 := VG_le (W := h.2 374) (N := o) (c := c + 1) (m := m)
      rw [ggR_laysGiven_8]
      simp -implicitDefEqProofs (disch := (first | omega | assumption | exact am_isS_3 | exact am_isS_25 | exact am_isX_356 | exact am_isX_359)) only [ggR_laysGiven_0, ggR_laysGiven_2, ggR_laysGiven_3, ggR_laysGiven_5, ggR_laysGiven_7, ggR_laysGiven_9, ggR_laysGiven_10, ggR_laysGiven_11, ggR_laysGiven_12, ccR_laysGiven_2_2, ccR_laysGiven_2_1, ccR_laysGiven_3_1, ccR_laysGiven_8_1, ccR_laysGiven_9_1, ccR_laysGiven_10_1, rR_children, e0, eN, pn_max, hfin, am_kI_x, am_kV_x, am_kI_i, am_nI_i, am_kV_i, am_nV_i, ↓reduceIte, eq_self, if_true, if_false, c_in, c_tn, pn_add, pn_mul, pn_subc, pn_addm, c_le_t, c_le_f, c_lt_t, c_lt_f, c_eq_f, c_eqm, bi_z, bi_1, bi_b, bi_T, bi_F, ite_not, up_eq, up_ne, or_self, or_true, true_or, or_false, false_or, and_true, true_and, and_self, not_true_eq_false, not_false_eq_true, Bool.false_eq_true]
      exact ih
    · have eB := fun d => rR_givenBy hN e0 hc hm (o := o) (by omega) hW T d
      by_cases ha : avG (h.2 374) N c m o = true
      · have ih := ih (o + 1) (VG (h.2 374) N c m) (by omega) (Nat.le_refl _) (fun _ => rfl) (fun _ => rfl)
        have hfin : max x (VG (h.2 374) N c m) = VG (h.2 374) N c m := by omega
        rw [if_pos ha] at eB
        rw [ggR_laysGiven_8]
        simp -implicitDefEqProofs (disch := (first | omega | assumption | exact am_isS_3 | exact am_isS_25 | exact am_isX_356 | exact am_isX_359)) only [ggR_laysGiven_0, ggR_laysGiven_2, ggR_laysGiven_3, ggR_laysGiven_5, ggR_laysGiven_7, ggR_laysGiven_9, ggR_laysGiven_10, ggR_laysGiven_11, ggR_laysGiven_12, ccR_laysGiven_2_2, ccR_laysGiven_2_1, ccR_laysGiven_3_1, ccR_laysGiven_8_1, ccR_laysGiven_9_1, ccR_laysGiven_10_1, rR_children, e0, eB, pn_max, hfin, am_kI_x, am_kV_x, am_kI_i, am_nI_i, am_kV_i, am_nV_i, ↓reduceIte, eq_self, if_true, if_false, c_in, c_tn, pn_add, pn_mul, pn_subc, pn_addm, c_le_t, c_le_f, c_lt_t, c_lt_f, c_eq_f, c_eqm, bi_z, bi_1, bi_b, bi_T, bi_F, ite_not, up_eq, up_ne, or_self, or_true, true_or, or_false, false_or, and_true, true_and, and_self, not_true_eq_false, not_false_eq_true, Bool.false_eq_true]
        exact ih
      · have ih := ih (o + 1) x (by omega) hx (fun ⟨o', q1, q2, q3⟩ => by
          by_cases z : o' = o
          · rw [z] at q3; exact absurd q3 ha
          · exact hq ⟨o', by omega, q2, q3⟩) (fun z => by omega)
        rw [if_neg ha] at eB
        rw [ggR_laysGiven_8]
        simp -implicitDefEqProofs (disch := (first | omega | assumption | exact am_isS_3 | exact am_isS_25 | exact am_isX_356 | exact am_isX_359)) only [ggR_laysGiven_0, ggR_laysGiven_2, ggR_laysGiven_3, ggR_laysGiven_5, ggR_laysGiven_7, ggR_laysGiven_9, ggR_laysGiven_10, ggR_laysGiven_11, ggR_laysGiven_12, ccR_laysGiven_2_2, ccR_laysGiven_2_1, ccR_laysGiven_3_1, ccR_laysGiven_8_1, ccR_laysGiven_9_1, ccR_laysGiven_10_1, rR_children, e0, eB, max_m1, am_kI_x, am_kV_x, am_kI_i, am_nI_i, am_kV_i, am_nV_i, ↓reduceIte, eq_self, if_true, if_false, c_in, c_tn, pn_add, pn_mul, pn_subc, pn_addm, c_le_t, c_le_f, c_lt_t, c_lt_f, c_eq_f, c_eqm, bi_z, bi_1, bi_b, bi_T, bi_F, ite_not, up_eq, up_ne, or_self, or_true, true_or, or_false, false_or, and_true, true_and, and_self, not_true_eq_false, not_false_eq_true, Bool.false_eq_true]
        exact ih
theorem lays_6 {W : Nat → Int32} {N c : Nat} (hN : N ≤ 8) (e0 : W 0 = (Int32.ofNat N)) (hc : c < N) (hW : ∀ c, c < N → rm (W (43 + 9 * c + 5)) 8) (d : Nat) : ∀ (k m : Nat) (h : am_H) (v3 v4 : Value), m + k = 256 → h.2 374 = W → tblG h W N (c + 1) → (∀ m', m' < m → h.2 385 (c * 256 + m') = (Int32.ofNat (VG W N c m'))) → ∃ h' w2 w3 w4, am_go (am_cl (d + 5)) qR_laysGiven 6 [.ref 373, .int (Int32.ofNat c), .int (Int32.ofNat m), v3, v4] [] h = am_go (am_cl (d + 5)) qR_laysGiven 11 [.ref 373, .int (Int32.ofNat c), .int w2, w3, w4] [] h' ∧ h'.1 = h.1 ∧ tblG h' W N c ∧ ∀ p, p ≠ 385 → h'.2 p = h.2 p := by
  intro k
  induction k with
  | zero =>
    intro m h v3 v4 hm eW T e
    have hm : m = 256 := by omega
    subst hm
    refine ⟨h, (Int32.ofNat 256), v3, v4, ?_, rfl, fun c' m' h1 h2 h3 => ?_, fun _ _ => rfl⟩
    · rw [ggR_laysGiven_6]
      simp -implicitDefEqProofs (disch := (first | omega | assumption | exact am_isS_3 | exact am_isS_25 | exact am_isX_356 | exact am_isX_359)) only [ggR_laysGiven_0, ggR_laysGiven_2, ggR_laysGiven_3, ggR_laysGiven_5, ggR_laysGiven_7, ggR_laysGiven_9, ggR_laysGiven_10, ggR_laysGiven_12, ccR_laysGiven_2_2, ccR_laysGiven_2_1, ccR_laysGiven_3_1, ccR_laysGiven_8_1, ccR_laysGiven_9_1, ccR_laysGiven_10_1, am_kI_x, am_kV_x, am_kI_i, am_nI_i, am_kV_i, am_nV_i, ↓reduceIte, eq_self, if_true, if_false, c_in, c_tn, pn_add, pn_mul, pn_subc, pn_addm, c_le_t, c_le_f, c_lt_t, c_lt_f, c_eq_f, c_eqm, bi_z, bi_1, bi_b, bi_T, bi_F, ite_not, up_eq, up_ne, or_self, or_true, true_or, or_false, false_or, and_true, true_and, and_self, not_true_eq_false, not_false_eq_true, Bool.false_eq_true]
    · by_cases q : c' = c
      · rw [q]; exact e m' h3
      · exact T c' m' (by omega) h2 h3
  | succ k ih =>
    intro m h v3 v4 hm eW T e
    have l := lays_8 (h := h) hN (by rw [eW]; exact e0) hc (m := m) (by omega) (by rw [eW]; exact hW) (by rw [eW]; exact T) d (N + 1) 0 0 (by omega) (Nat.zero_le _) (fun ⟨o', q1, _⟩ => by omega) (fun z => by omega)
    rw [eW] at l
    obtain ⟨h', w2, w3, w4, a, b, T', f⟩ := ih (m + 1) (am_up h 385 (c * 256 + m) (Int32.ofNat (VG W N c m))) (.int (Int32.ofNat (VG W N c m))) (.int (Int32.ofNat (N + 1))) (by omega) (by rw [up_o (by omega)]; exact eW) (fun c' m' h1 h2 h3 => by rw [up_ne (by omega)]; exact T c' m' h1 h2 h3) (fun m' h1 => by
      by_cases q : m' = m
      · rw [q]; exact up_eq rfl rfl
      · rw [up_ne (by omega)]; exact e m' (by omega))
    refine ⟨h', w2, w3, w4, ?_, b, T', fun p hp => by rw [f p hp, up_o hp]⟩
    rw [ggR_laysGiven_6]
    simp -implicitDefEqProofs (disch := (first | omega | assumption | exact am_isS_3 | exact am_isS_25 | exact am_isX_356 | exact am_isX_359)) only [ggR_laysGiven_0, ggR_laysGiven_2, ggR_laysGiven_3, ggR_laysGiven_5, ggR_laysGiven_7, ggR_laysGiven_9, ggR_laysGiven_10, ggR_laysGiven_12, ccR_laysGiven_2_2, ccR_laysGiven_2_1, ccR_laysGiven_3_1, ccR_laysGiven_8_1, ccR_laysGiven_9_1, ccR_laysGiven_10_1, am_kI_x, am_kV_x, am_kI_i, am_nI_i, am_kV_i, am_nV_i, ↓reduceIte, eq_self, if_true, if_false, c_in, c_tn, pn_add, pn_mul, pn_subc, pn_addm, c_le_t, c_le_f, c_lt_t, c_lt_f, c_eq_f, c_eqm, bi_z, bi_1, bi_b, bi_T, bi_F, ite_not, up_eq, up_ne, or_self, or_true, true_or, or_false, false_or, and_true, true_and, and_self, not_true_eq_false, not_false_eq_true, Bool.false_eq_true]
    exact l.trans a
theorem lays_4 {W : Nat → Int32} {N : Nat} (hN : N ≤ 8) (e0 : W 0 = (Int32.ofNat N)) (hW : ∀ c, c < N → rm (W (43 + 9 * c + 5)) 8) (d : Nat) : ∀ (c : Nat) (h : am_H) (v2 v3 v4 : Value), c ≤ N → h.2 374 = W → tblG h W N c → ∃ h', am_go (am_cl (d + 5)) qR_laysGiven 4 [.ref 373, .int (if c = 0 then -1 else (Int32.ofNat (c - 1))), v2, v3, v4] [] h = some (.inl none, h') ∧ h'.1 = h.1 ∧ tblG h' W N 0 ∧ ∀ p, p ≠ 385 → h'.2 p = h.2 p := by
  intro c
  induction c with
  | zero =>
    intro h v2 v3 v4 _ eW T
    refine ⟨h, ?_, rfl, T, fun _ _ => rfl⟩
    rw [if_pos rfl, ggR_laysGiven_4]
    simp -implicitDefEqProofs (disch := (first | omega | assumption | exact am_isS_3 | exact am_isS_25 | exact am_isX_356 | exact am_isX_359)) only [ggR_laysGiven_0, ggR_laysGiven_2, ggR_laysGiven_3, ggR_laysGiven_5, ggR_laysGiven_7, ggR_laysGiven_9, ggR_laysGiven_10, ggR_laysGiven_11, ggR_laysGiven_12, ccR_laysGiven_2_2, ccR_laysGiven_2_1, ccR_laysGiven_3_1, ccR_laysGiven_8_1, ccR_laysGiven_9_1, ccR_laysGiven_10_1, m1_neg, am_kI_x, am_kV_x, am_kI_i, am_nI_i, am_kV_i, am_nV_i, ↓reduceIte, eq_self, if_true, if_false, c_in, c_tn, pn_add, pn_mul, pn_subc, pn_addm, c_le_t, c_le_f, c_lt_t, c_lt_f, c_eq_f, c_eqm, bi_z, bi_1, bi_b, bi_T, bi_F, ite_not, up_eq, up_ne, or_self, or_true, true_or, or_false, false_or, and_true, true_and, and_self, not_true_eq_false, not_false_eq_true, Bool.false_eq_true]
  | succ c ih =>
    intro h v2 v3 v4 hc eW T
    obtain ⟨h1, w2, w3, w4, a, b, T', f⟩ := lays_6 hN e0 (c := c) (by omega) hW d 256 0 h v3 v4 (by omega) eW T (fun m' hm => by omega)
    obtain ⟨h', a2, b2, T2, f2⟩ := ih h1 (.int w2) w3 w4 (by omega) (by rw [f 374 (by omega)]; exact eW) T'
    have hi : (if c = 0 then (-1 : Int32) else (Int32.ofNat (c - 1))) = (Int32.ofNat c) + -1 := by
      by_cases h0 : c = 0
      · rw [if_pos h0, h0, z_m1]
      · rw [if_neg h0, pn_addm (by omega)]
    rw [hi] at a2
    refine ⟨h', ?_, b2.trans b, T2, fun p hp => by rw [f2 p hp, f p hp]⟩
    rw [if_neg (by omega), Nat.add_sub_cancel, ggR_laysGiven_4]
    simp -implicitDefEqProofs (disch := (first | omega | assumption | exact am_isS_3 | exact am_isS_25 | exact am_isX_356 | exact am_isX_359)) only [ggR_laysGiven_0, ggR_laysGiven_2, ggR_laysGiven_3, ggR_laysGiven_5, ggR_laysGiven_7, ggR_laysGiven_9, ggR_laysGiven_10, ggR_laysGiven_12, ccR_laysGiven_2_2, ccR_laysGiven_2_1, ccR_laysGiven_3_1, ccR_laysGiven_8_1, ccR_laysGiven_9_1, ccR_laysGiven_10_1, am_kI_x, am_kV_x, am_kI_i, am_nI_i, am_kV_i, am_nV_i, ↓reduceIte, eq_self, if_true, if_false, c_in, c_tn, pn_add, pn_mul, pn_subc, pn_addm, c_le_t, c_le_f, c_lt_t, c_lt_f, c_eq_f, c_eqm, bi_z, bi_1, bi_b, bi_T, bi_F, ite_not, up_eq, up_ne, or_self, or_true, true_or, or_false, false_or, and_true, true_and, and_self, not_true_eq_false, not_false_eq_true, Bool.false_eq_true]
    refine a.trans ?_
    simp -implicitDefEqProofs (disch := (first | omega | assumption | exact am_isS_3 | exact am_isS_25 | exact am_isX_356 | exact am_isX_359)) only [ggR_laysGiven_0, ggR_laysGiven_2, ggR_laysGiven_3, ggR_laysGiven_5, ggR_laysGiven_7, ggR_laysGiven_9, ggR_laysGiven_10, ggR_laysGiven_11, ggR_laysGiven_12, ccR_laysGiven_2_2, ccR_laysGiven_2_1, ccR_laysGiven_3_1, ccR_laysGiven_8_1, ccR_laysGiven_9_1, ccR_laysGiven_10_1, am_kI_x, am_kV_x, am_kI_i, am_nI_i, am_kV_i, am_nV_i, ↓reduceIte, eq_self, if_true, if_false, c_in, c_tn, pn_add, pn_mul, pn_subc, pn_addm, c_le_t, c_le_f, c_lt_t, c_lt_f, c_eq_f, c_eqm, bi_z, bi_1, bi_b, bi_T, bi_F, ite_not, up_eq, up_ne, or_self, or_true, true_or, or_false, false_or, and_true, true_and, and_self, not_true_eq_false, not_false_eq_true, Bool.false_eq_true]
    exact a2
theorem lays_1 {W : Nat → Int32} {N : Nat} (hN : N ≤ 8) (e0 : W 0 = (Int32.ofNat N)) (d : Nat) : ∀ (k m : Nat) (h : am_H), m + k = 256 → h.2 374 = W → (∀ m', m' < m → h.2 385 (N * 256 + m') = (Int32.ofNat 0)) → ∃ h', am_go (am_cl (d + 5)) qR_laysGiven 1 [.ref 373, .int (Int32.ofNat m), .null, .null, .null] [] h = am_go (am_cl (d + 5)) qR_laysGiven 4 [.ref 373, .int (if N = 0 then -1 else (Int32.ofNat (N - 1))), .null, .null, .null] [] h' ∧ h'.1 = h.1 ∧ (∀ m', m' < 256 → h'.2 385 (N * 256 + m') = (Int32.ofNat 0)) ∧ ∀ p, p ≠ 385 → h'.2 p = h.2 p := by
  intro k
  induction k with
  | zero =>
    intro m h hm eW e
    have hm : m = 256 := by omega
    subst hm
    have e0' : h.2 374 0 = (Int32.ofNat N) := by rw [eW]; exact e0
    have hi : (if N = 0 then (-1 : Int32) else (Int32.ofNat (N - 1))) = (Int32.ofNat N) - (Int32.ofNat 1) := by
      by_cases h0 : N = 0
      · rw [if_pos h0, h0, z_s1]
      · rw [if_neg h0, pn_subc (by omega)]
    refine ⟨h, ?_, rfl, e, fun _ _ => rfl⟩
    rw [hi, ggR_laysGiven_1]
    by_cases h0 : N = 0
    · subst h0
      simp -implicitDefEqProofs (disch := (first | omega | assumption | exact am_isS_3 | exact am_isS_25 | exact am_isX_356 | exact am_isX_359)) only [ggR_laysGiven_0, ggR_laysGiven_2, ggR_laysGiven_3, ggR_laysGiven_5, ggR_laysGiven_7, ggR_laysGiven_9, ggR_laysGiven_10, ggR_laysGiven_11, ggR_laysGiven_12, ccR_laysGiven_2_2, ccR_laysGiven_2_1, ccR_laysGiven_3_1, ccR_laysGiven_8_1, ccR_laysGiven_9_1, ccR_laysGiven_10_1, rR_children, e0', z_s1, am_kI_x, am_kV_x, am_kI_i, am_nI_i, am_kV_i, am_nV_i, ↓reduceIte, eq_self, if_true, if_false, c_in, c_tn, pn_add, pn_mul, pn_subc, pn_addm, c_le_t, c_le_f, c_lt_t, c_lt_f, c_eq_f, c_eqm, bi_z, bi_1, bi_b, bi_T, bi_F, ite_not, up_eq, up_ne, or_self, or_true, true_or, or_false, false_or, and_true, true_and, and_self, not_true_eq_false, not_false_eq_true, Bool.false_eq_true]
    · simp -implicitDefEqProofs (disch := (first | omega | assumption | exact am_isS_3 | exact am_isS_25 | exact am_isX_356 | exact am_isX_359)) only [ggR_laysGiven_0, ggR_laysGiven_2, ggR_laysGiven_3, ggR_laysGiven_5, ggR_laysGiven_7, ggR_laysGiven_9, ggR_laysGiven_10, ggR_laysGiven_11, ggR_laysGiven_12, ccR_laysGiven_2_2, ccR_laysGiven_2_1, ccR_laysGiven_3_1, ccR_laysGiven_8_1, ccR_laysGiven_9_1, ccR_laysGiven_10_1, rR_children, e0', am_kI_x, am_kV_x, am_kI_i, am_nI_i, am_kV_i, am_nV_i, ↓reduceIte, eq_self, if_true, if_false, c_in, c_tn, pn_add, pn_mul, pn_subc, pn_addm, c_le_t, c_le_f, c_lt_t, c_lt_f, c_eq_f, c_eqm, bi_z, bi_1, bi_b, bi_T, bi_F, ite_not, up_eq, up_ne, or_self, or_true, true_or, or_false, false_or, and_true, true_and, and_self, not_true_eq_false, not_false_eq_true, Bool.false_eq_true]
  | succ k ih =>
    intro m h hm eW e
    have e0' : h.2 374 0 = (Int32.ofNat N) := by rw [eW]; exact e0
    obtain ⟨h', a, b, c, f⟩ := ih (m + 1) (am_up h 385 (N * 256 + m) (Int32.ofNat 0)) (by omega) (by rw [up_o (by omega)]; exact eW) (fun m' h1 => by
      by_cases q : m' = m
      · rw [q]; exact up_eq rfl rfl
      · rw [up_ne (by omega)]; exact e m' (by omega))
    refine ⟨h', ?_, b, c, fun p hp => by rw [f p hp, up_o hp]⟩
    rw [ggR_laysGiven_1]
    simp -implicitDefEqProofs (disch := (first | omega | assumption | exact am_isS_3 | exact am_isS_25 | exact am_isX_356 | exact am_isX_359)) only [ggR_laysGiven_0, ggR_laysGiven_2, ggR_laysGiven_3, ggR_laysGiven_5, ggR_laysGiven_7, ggR_laysGiven_9, ggR_laysGiven_10, ggR_laysGiven_11, ggR_laysGiven_12, ccR_laysGiven_2_2, ccR_laysGiven_2_1, ccR_laysGiven_3_1, ccR_laysGiven_8_1, ccR_laysGiven_9_1, ccR_laysGiven_10_1, rR_children, e0', rR_givenAt, am_kI_x, am_kV_x, am_kI_i, am_nI_i, am_kV_i, am_nV_i, ↓reduceIte, eq_self, if_true, if_false, c_in, c_tn, pn_add, pn_mul, pn_subc, pn_addm, c_le_t, c_le_f, c_lt_t, c_lt_f, c_eq_f, c_eqm, bi_z, bi_1, bi_b, bi_T, bi_F, ite_not, up_eq, up_ne, or_self, or_true, true_or, or_false, false_or, and_true, true_and, and_self, not_true_eq_false, not_false_eq_true, Bool.false_eq_true]
    exact a
theorem rR_laysGiven {h : am_H} {N : Nat} (hN : N ≤ 8) (e0 : h.2 374 0 = (Int32.ofNat N)) (hW : ∀ c, c < N → rm (h.2 374 (43 + 9 * c + 5)) 8) (d : Nat) : ∃ h', am_cl (d + 6) qR_laysGiven [.ref 373] h = some (.inl none, h') ∧ h'.1 = h.1 ∧ tblG h' (h.2 374) N 0 ∧ ∀ p, p ≠ 385 → h'.2 p = h.2 p := by
  obtain ⟨h1, a, b, c, f⟩ := lays_1 hN e0 d 256 0 h (by omega) rfl (fun m' hm => by omega)
  obtain ⟨h', a2, b2, T2, f2⟩ := lays_4 hN e0 hW d N h1 .null .null .null (Nat.le_refl _) (f 374 (by omega)) (fun c' m' q1 q2 q3 => by
    have q : c' = N := by omega
    rw [q, c m' q3, VG_N])
  refine ⟨h', ?_, b2.trans b, T2, fun p hp => by rw [f2 p hp, f p hp]⟩
  rw [uR_laysGiven, ggR_laysGiven_0]
  exact a.trans a2
