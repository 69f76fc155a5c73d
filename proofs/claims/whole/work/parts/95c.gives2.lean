/-! to whom each gives -/
def fo (p : Nat → Bool) (n : Nat) : Nat := if anyN p n = true then fsv p (fun c => c) n else n
theorem fo_at {p : Nat → Bool} {n : Nat} (h : anyN p n = true) : fo p n < n ∧ p (fo p n) = true ∧ ∀ c', c' < fo p n → ¬ p c' = true := by
  obtain ⟨c, c1, c2, c3, c4⟩ := fsv_at (g := fun c => c) h
  unfold fo
  rw [if_pos h, c4]
  exact ⟨c1, c2, c3⟩
theorem fo_no {p : Nat → Bool} {n : Nat} (h : ¬ anyN p n = true) : fo p n = n := if_neg h
theorem fo_un {p : Nat → Bool} {n c : Nat} (hc : c < n) (hp : p c = true) (hl : ∀ c', c' < c → ¬ p c' = true) : fo p n = c := by
  obtain ⟨a, b, e⟩ := fo_at (p := p) (n := n) (anyN_iff.mpr ⟨c, hc, hp⟩)
  by_cases h1 : fo p n < c
  · exact absurd b (hl _ h1)
  · by_cases h2 : c < fo p n
    · exact absurd hp (e c h2)
    · omega
def tkG (W : Nat → Int32) (N c m : Nat) : Nat := if avG W N c m c = true then c else fo (avG W N c m) N
def stG (W : Nat → Int32) (N c m : Nat) : Nat := if tkG W N c m < N then m ||| 2 ^ tkG W N c m else m
def seqG (W : Nat → Int32) (N : Nat) : Nat → Nat
  | 0 => 0
  | c + 1 => stG W N c (seqG W N c)
theorem tkG_at {W : Nat → Int32} {N c m : Nat} (hc : c < N) (h : tkG W N c m < N) : avG W N c m (tkG W N c m) = true := by
  unfold tkG at h ⊢
  by_cases h1 : avG W N c m c = true
  · rw [if_pos h1]; exact h1
  · rw [if_neg h1] at h ⊢
    by_cases ha : anyN (avG W N c m) N = true
    · exact (fo_at ha).2.1
    · rw [fo_no ha] at h; omega
theorem tkG_no {W : Nat → Int32} {N c m : Nat} (hc : c < N) (h : ¬ tkG W N c m < N) : tkG W N c m = N ∧ ∀ o, o < N → ¬ avG W N c m o = true := by
  unfold tkG at h ⊢
  by_cases h1 : avG W N c m c = true
  · rw [if_pos h1] at h; omega
  · rw [if_neg h1] at h ⊢
    by_cases ha : anyN (avG W N c m) N = true
    · exact absurd (fo_at ha).1 h
    · exact ⟨fo_no ha, fun o ho q => ha (anyN_iff.mpr ⟨o, ho, q⟩)⟩
theorem stG_lt {W : Nat → Int32} {N c m : Nat} (hN : N ≤ 8) (hm : m < 256) : stG W N c m < 256 := by
  unfold stG
  by_cases h : tkG W N c m < N
  · rw [if_pos h]; exact (ob_at hm (by omega)).2
  · rw [if_neg h]; exact hm
theorem seqG_lt {W : Nat → Int32} {N : Nat} (hN : N ≤ 8) : ∀ c, seqG W N c < 256 := by
  intro c
  induction c with
  | zero => show 0 < 256; omega
  | succ c ih => exact stG_lt hN ih
theorem VG_step {W : Nat → Int32} {N c m : Nat} (hN : N ≤ 8) (hc : c < N) : VG W N c m = (if tkG W N c m < N then 1 else 0) + VG W N (c + 1) (stG W N c m) := by
  unfold stG
  by_cases h : tkG W N c m < N
  · rw [if_pos h, if_pos h]
    obtain ⟨⟨t, ht, h1, h2⟩, h3⟩ := avG_iff.mp (tkG_at hc h)
    exact VG_yes (by omega) ht (by omega) h1 h2 h3
  · rw [if_neg h, if_neg h, Nat.zero_add]
    exact VG_no (by omega) (fun t ht h1 o ho h2 => by
      cases hb : m.testBit o with
      | true => rfl
      | false => exact absurd (avG_iff.mpr ⟨⟨t, ht, h1, h2⟩, hb⟩) ((tkG_no hc h).2 o (ws_iff.mp h2).1))
theorem zb_iff {x : Int32} {c : Nat} (hc : c < 32) : ((x >>> ((Int32.ofNat c) &&& (Int32.ofNat 31))) &&& (Int32.ofNat 1) = (Int32.ofNat 0)) = (tb x c = false) := by
  have hb := tb_has (x := x) hc
  obtain ⟨n, hn, e⟩ := one_rg (x >>> ((Int32.ofNat c) &&& (Int32.ofNat 31)))
  apply propext
  rw [e] at hb ⊢
  rcases (show n = 0 ∨ n = 1 by omega) with rfl | rfl
  · have h1 : ¬ tb x c = true := fun q => absurd (hb.mpr q) (by decide)
    exact ⟨fun _ => Bool.eq_false_iff.mpr h1, fun _ => rfl⟩
  · have h1 : tb x c = true := hb.mp rfl
    rw [h1]
    exact ⟨fun q => absurd q (by decide), fun q => absurd q (by decide)⟩
theorem xM_takerOf {h : am_H} {W : Nat → Int32} {N G c m : Nat} (R : RelS h 3 W N G) (hc : c < N) (hm : m < 256) (hW : ∀ c, c < N → rm (W (43 + 9 * c + 5)) 8) (d : Nat) : am_cl (d + 2) qM_takerOf [.ref 3, .int (Int32.ofNat c), .int (Int32.ofNat m)] h = some (.inl (some (if tkG W N c m < N then (Int32.ofNat (tkG W N c m)) else -1)), h) := by
  have hN := R.1
  have r4 := R.2.2.2.1
  have r12 := R.2.2.2.2.2.2.2.2.2.2.2.1 5 c (by omega) (by omega)
  rcases hW c hc with e | ⟨k, hk, e⟩
  · have hno : ¬ tkG W N c m < N := fun q => by
      obtain ⟨⟨t, ht, h1, -⟩, -⟩ := avG_iff.mp (tkG_at hc q)
      have := (kt_iff.mp h1).2
      rw [e] at this
      have h2 := c_eqm (a := t) (by omega)
      rw [← this] at h2
      simp at h2
    rw [if_neg hno]
    simp -implicitDefEqProofs (disch := (first | omega | assumption | exact am_isS_3 | exact am_isS_25 | exact am_isX_356 | exact am_isX_359)) only [uM_takerOf, ggM_takerOf_0, ggM_takerOf_1, ggM_takerOf_2, ggM_takerOf_3, ggM_takerOf_4, ccM_takerOf_2_1, ccM_takerOf_4_1, r12, e, am_kI_x, am_kV_x, am_kI_i, am_nI_i, am_kV_i, am_nV_i, ↓reduceIte, eq_self, if_true, if_false, c_in, c_tn, pn_add, pn_mul, pn_subc, pn_addm, c_le_t, c_le_f, c_lt_t, c_lt_f, c_eq_f, c_eqm, bi_z, bi_1, bi_b, bi_T, bi_F, ite_not, up_eq, up_ne, or_self, or_true, true_or, or_false, false_or, and_true, true_and, and_self, not_true_eq_false, not_false_eq_true, Bool.false_eq_true]
  · have eb := fun d => sS_bitsOf am_isS_3 hN r4 d (k := 4) (by omega) (Int32.ofNat k)
    rw [bs_rel R (k := 4) (by omega) (Int32.ofNat k)] at eb
    have hkc : kt W N c k = true := kt_iff.mpr ⟨hc, e⟩
    have hav : ∀ o, avG W N c m o = (ws W N o k && !m.testBit o) := fun o => by
      unfold avG
      congr 1
      apply bool_iff
      rw [anyN_iff]
      constructor
      · rintro ⟨t, ht, q⟩
        rw [Bool.and_eq_true] at q
        rw [kt_one hk ht hkc q.1]
        exact q.2
      · intro q
        exact ⟨k, hk, by rw [hkc, q]; rfl⟩
    have es : bset (fun c => decide (W (43 + 9 * c + 4) = (Int32.ofNat k))) N &&& ((Int32.ofNat m) ^^^ -1) = bset (avG W N c m) N := by
      apply tb_ext
      intro o ho
      rw [tb_and, tb_bset _ (by omega) ho, tb_not _ ho, tb_ofNat ho, tb_bset _ (by omega) ho, hav o]
      unfold ws
      cases decide (o < N) <;> cases decide (W (43 + 9 * o + 4) = (Int32.ofNat k)) <;> cases m.testBit o <;> rfl
    have hz := has_z (avG W N c m) (N := N) (c := c) (by omega) hc
    by_cases h1 : avG W N c m c = true
    · have ht : tkG W N c m = c := if_pos h1
      rw [ht, if_pos hc]
      simp -implicitDefEqProofs (disch := (first | omega | assumption | exact am_isS_3 | exact am_isS_25 | exact am_isX_356 | exact am_isX_359)) only [uM_takerOf, ggM_takerOf_0, ggM_takerOf_1, ggM_takerOf_2, ggM_takerOf_3, ggM_takerOf_4, ccM_takerOf_2_1, ccM_takerOf_4_1, r12, e, eb, es, hz, h1, am_kI_x, am_kV_x, am_kI_i, am_nI_i, am_kV_i, am_nV_i, ↓reduceIte, eq_self, if_true, if_false, c_in, c_tn, pn_add, pn_mul, pn_subc, pn_addm, c_le_t, c_le_f, c_lt_t, c_lt_f, c_eq_f, c_eqm, bi_z, bi_1, bi_b, bi_T, bi_F, ite_not, up_eq, up_ne, or_self, or_true, true_or, or_false, false_or, and_true, true_and, and_self, not_true_eq_false, not_false_eq_true, Bool.false_eq_true]
    · have ht : tkG W N c m = fo (avG W N c m) N := if_neg h1
      obtain ⟨zn, -⟩ := bset_N (avG W N c m) (N := N) (by omega)
      have zl := bsN_lt (avG W N c m) N
      have z8 : 2 ^ N ≤ 2 ^ 8 := Nat.pow_le_pow_right (by omega) hN
      have zz := bsN_zero (p := avG W N c m) (N := N)
      by_cases ha : anyN (avG W N c m) N = true
      · have hz0 : bsN (avG W N c m) N ≠ 0 := fun q => by
          obtain ⟨o, ho, hp⟩ := anyN_iff.mp ha
          rw [zz.mp q o ho] at hp
          exact absurd hp (by decide)
        obtain ⟨l1, l2, l3⟩ := lo_at (m := bsN (avG W N c m) N) (by omega) hz0
        have lf := fun d h => xF_leastOf (m := bsN (avG W N c m) N) (by omega) hz0 d h
        rw [← zn] at l2 l3 lf
        have hfo : fo (avG W N c m) N = ntzN 10 (bsN (avG W N c m) N) := by
          rw [zb_iff (by omega), tb_bset _ (by omega) (by omega)] at l3
          have l3 : (decide (ntzN 10 (bsN (avG W N c m) N) < N) && avG W N c m (ntzN 10 (bsN (avG W N c m) N))) = true := by
            cases hh : (decide (ntzN 10 (bsN (avG W N c m) N) < N) && avG W N c m (ntzN 10 (bsN (avG W N c m) N))) with
            | true => rfl
            | false => exact absurd hh l3
          rw [Bool.and_eq_true, decide_eq_true_eq] at l3
          refine fo_un l3.1 l3.2 (fun c' hc' q => ?_)
          have := l2 c' hc'
          rw [zb_iff (by omega), tb_bset _ (by omega) (by omega), decide_eq_true (by omega), Bool.true_and, q] at this
          exact absurd this (by decide)
        have hlt := (fo_at ha).1
        rw [ht, if_pos hlt, hfo]
        simp -implicitDefEqProofs (disch := (first | omega | assumption | exact am_isS_3 | exact am_isS_25 | exact am_isX_356 | exact am_isX_359)) only [uM_takerOf, ggM_takerOf_0, ggM_takerOf_1, ggM_takerOf_2, ggM_takerOf_3, ggM_takerOf_4, ccM_takerOf_2_1, ccM_takerOf_4_1, r12, e, eb, es, hz, h1, lf, am_kI_x, am_kV_x, am_kI_i, am_nI_i, am_kV_i, am_nV_i, ↓reduceIte, eq_self, if_true, if_false, c_in, c_tn, pn_add, pn_mul, pn_subc, pn_addm, c_le_t, c_le_f, c_lt_t, c_lt_f, c_eq_f, c_eqm, bi_z, bi_1, bi_b, bi_T, bi_F, ite_not, up_eq, up_ne, or_self, or_true, true_or, or_false, false_or, and_true, true_and, and_self, not_true_eq_false, not_false_eq_true, Bool.false_eq_true]
      · have hz0 : bsN (avG W N c m) N = 0 := zz.mpr (fun o ho => Bool.eq_false_iff.mpr (fun q => ha (anyN_iff.mpr ⟨o, ho, q⟩)))
        rw [hz0] at zn
        rw [ht, fo_no ha, if_neg (by omega)]
        have lf := fun d h => xF_leastOf0 d h
        rw [← zn] at lf
        simp -implicitDefEqProofs (disch := (first | omega | assumption | exact am_isS_3 | exact am_isS_25 | exact am_isX_356 | exact am_isX_359)) only [uM_takerOf, ggM_takerOf_0, ggM_takerOf_1, ggM_takerOf_2, ggM_takerOf_3, ggM_takerOf_4, ccM_takerOf_2_1, ccM_takerOf_4_1, r12, e, eb, es, hz, h1, lf, am_kI_x, am_kV_x, am_kI_i, am_nI_i, am_kV_i, am_nV_i, ↓reduceIte, eq_self, if_true, if_false, c_in, c_tn, pn_add, pn_mul, pn_subc, pn_addm, c_le_t, c_le_f, c_lt_t, c_lt_f, c_eq_f, c_eqm, bi_z, bi_1, bi_b, bi_T, bi_F, ite_not, up_eq, up_ne, or_self, or_true, true_or, or_false, false_or, and_true, true_and, and_self, not_true_eq_false, not_false_eq_true, Bool.false_eq_true]
/-- what one gives, as the class keeps it -/
def gfG (W : Nat → Int32) (N c : Nat) : Int32 := if tkG W N c (seqG W N c) < N then (Int32.ofNat (tkG W N c (seqG W N c))) else -1
theorem xM_settleGifts_l {W : Nat → Int32} {N G : Nat} (hW : ∀ c, c < N → rm (W (43 + 9 * c + 5)) 8) (d : Nat) : ∀ (k c g : Nat) (h : am_H), c + k = N → RelS h 3 W N G → g + VG W N c (seqG W N c) = VG W N 0 0 → (∀ j, j < c → h.2 366 j = gfG W N j) → ∃ h', am_go (am_cl (d + 2)) qM_settleGifts 1 [.ref 365, .ref 3, .int (Int32.ofNat g), .int (Int32.ofNat (seqG W N c)), .int (Int32.ofNat c)] [] h = some (.inl (some ((Int32.ofNat (VG W N 0 0)))), h') ∧ h'.1 = h.1 ∧ (∀ j, j < N → h'.2 366 j = gfG W N j) ∧ ∀ p, p ≠ 366 → h'.2 p = h.2 p := by
  intro k
  induction k with
  | zero =>
    intro c g h hc R hg e
    have hc : c = N := by omega
    subst hc
    rw [VG_N, Nat.add_zero] at hg
    subst hg
    refine ⟨h, ?_, rfl, e, fun _ _ => rfl⟩
    have r4 := R.2.2.2.1
    have hN := R.1
    rw [ggM_settleGifts_1]
    simp -implicitDefEqProofs (disch := (first | omega | assumption | exact am_isS_3 | exact am_isS_25 | exact am_isX_356 | exact am_isX_359)) only [ggM_settleGifts_0, ggM_settleGifts_2, ggM_settleGifts_3, ggM_settleGifts_4, ggM_settleGifts_5, ccM_settleGifts_2_1, r4, am_kI_x, am_kV_x, am_kI_i, am_nI_i, am_kV_i, am_nV_i, ↓reduceIte, eq_self, if_true, if_false, c_in, c_tn, pn_add, pn_mul, pn_subc, pn_addm, c_le_t, c_le_f, c_lt_t, c_lt_f, c_eq_f, c_eqm, bi_z, bi_1, bi_b, bi_T, bi_F, ite_not, up_eq, up_ne, or_self, or_true, true_or, or_false, false_or, and_true, true_and, and_self, not_true_eq_false, not_false_eq_true, Bool.false_eq_true]
  | succ k ih =>
    intro c g h hc R hg e
    have r4 := R.2.2.2.1
    have hN := R.1
    have sl := seqG_lt (W := W) hN c
    have eT := fun d => xM_takerOf R (c := c) (by omega) sl hW d
    have vs := VG_step (W := W) (m := seqG W N c) hN (c := c) (by omega)
    have v0 := VG_le (W := W) (N := N) (c := 0) (m := 0)
    have hseq : seqG W N (c + 1) = stG W N c (seqG W N c) := rfl
    obtain ⟨h', a, b, e', f⟩ := ih (c + 1) (g + (if tkG W N c (seqG W N c) < N then 1 else 0)) (am_up h 366 c (gfG W N c)) (by omega) (R.frame (fun p h1 h2 => up_o (by omega))) (by rw [hseq]; omega) (fun j hj => by
      by_cases q : j = c
      · rw [q]; exact up_eq rfl rfl
      · rw [up_ne (by omega)]; exact e j (by omega))
    refine ⟨h', ?_, b, e', fun p hp => by rw [f p hp, up_o hp]⟩
    rw [hseq] at a
    unfold gfG at a
    unfold stG at a
    rw [ggM_settleGifts_1]
    by_cases ht : tkG W N c (seqG W N c) < N
    · obtain ⟨o1, o2⟩ := ob_at sl (o := tkG W N c (seqG W N c)) (by omega)
      rw [if_pos ht] at eT
      rw [if_pos ht, if_pos ht, if_pos ht] at a
      simp -implicitDefEqProofs (disch := (first | omega | assumption | exact am_isS_3 | exact am_isS_25 | exact am_isX_356 | exact am_isX_359)) only [ggM_settleGifts_0, ggM_settleGifts_2, ggM_settleGifts_3, ggM_settleGifts_4, ggM_settleGifts_5, ccM_settleGifts_2_1, r4, eT, o1, am_kI_x, am_kV_x, am_kI_i, am_nI_i, am_kV_i, am_nV_i, ↓reduceIte, eq_self, if_true, if_false, c_in, c_tn, pn_add, pn_mul, pn_subc, pn_addm, c_le_t, c_le_f, c_lt_t, c_lt_f, c_eq_f, c_eqm, bi_z, bi_1, bi_b, bi_T, bi_F, ite_not, up_eq, up_ne, or_self, or_true, true_or, or_false, false_or, and_true, true_and, and_self, not_true_eq_false, not_false_eq_true, Bool.false_eq_true]
      exact a
    · rw [if_neg ht] at eT
      rw [if_neg ht, if_neg ht, if_neg ht] at a
      simp -implicitDefEqProofs (disch := (first | omega | assumption | exact am_isS_3 | exact am_isS_25 | exact am_isX_356 | exact am_isX_359)) only [ggM_settleGifts_0, ggM_settleGifts_2, ggM_settleGifts_3, ggM_settleGifts_4, ggM_settleGifts_5, ccM_settleGifts_2_1, r4, eT, am_kI_x, am_kV_x, am_kI_i, am_nI_i, am_kV_i, am_nV_i, ↓reduceIte, eq_self, if_true, if_false, c_in, c_tn, pn_add, pn_mul, pn_subc, pn_addm, c_le_t, c_le_f, c_lt_t, c_lt_f, c_eq_f, c_eqm, bi_z, bi_1, bi_b, bi_T, bi_F, ite_not, up_eq, up_ne, or_self, or_true, true_or, or_false, false_or, and_true, true_and, and_self, not_true_eq_false, not_false_eq_true, Bool.false_eq_true]
      exact a
theorem ne_m1 {a : Nat} (ha : a < 2147483648) : ¬ (-1 : Int32) = (Int32.ofNat a) := fun q => by have := c_eqm ha; rw [← q] at this; simp at this
theorem rR_gives_12 {h : am_H} {N c m : Nat} (hN : N ≤ 8) (e0 : h.2 374 0 = (Int32.ofNat N)) (hc : c < N) (hm : m < 256) (hW : ∀ c, c < N → rm (h.2 374 (43 + 9 * c + 5)) 8) (T : tblG h (h.2 374) N 0) (x1 : Int32) (d : Nat) : ∀ k o, o + k = fo (avG (h.2 374) N c m) N → am_go (am_cl (d + 5)) qR_gives 12 [.ref 373, .int x1, .int (Int32.ofNat m), .int (Int32.ofNat o), .int (Int32.ofNat c), .int (Int32.ofNat (VG (h.2 374) N c m))] [] h = am_go (am_cl (d + 5)) qR_gives 14 [.ref 373, .int x1, .int (Int32.ofNat m), .int (Int32.ofNat (fo (avG (h.2 374) N c m) N)), .int (Int32.ofNat c), .int (Int32.ofNat (VG (h.2 374) N c m))] [] h := by
  have T' : tblG h (h.2 374) N (c + 1) := fun c' m' h1 h2 h3 => T c' m' (by omega) h2 h3
  have hle : fo (avG (h.2 374) N c m) N ≤ N := by
    by_cases ha : anyN (avG (h.2 374) N c m) N = true
    · have := (fo_at ha).1; omega
    · rw [fo_no ha]; omega
  have vl := VG_le (W := h.2 374) (N := N) (c := c) (m := m)
  intro k
  induction k with
  | zero =>
    intro o ho
    have ho : o = fo (avG (h.2 374) N c m) N := by omega
    by_cases ha : anyN (avG (h.2 374) N c m) N = true
    · obtain ⟨a1, a2, a3⟩ := fo_at ha
      rw [← ho] at a1 a2 ⊢
      have eB := fun d => rR_givenBy hN e0 hc hm (o := o) a1 hW T' d
      rw [if_pos a2] at eB
      rw [ggR_gives_12]
      simp -implicitDefEqProofs (disch := (first | omega | assumption | exact am_isS_3 | exact am_isS_25 | exact am_isX_356 | exact am_isX_359)) only [ggR_gives_0, ggR_gives_1, ggR_gives_2, ggR_gives_3, ggR_gives_4, ggR_gives_5, ggR_gives_6, ggR_gives_7, ggR_gives_8, ggR_gives_10, ggR_gives_11, ggR_gives_13, ggR_gives_15, ggR_gives_16, ggR_gives_17, ggR_gives_18, ggR_gives_19, ggR_gives_20, ggR_gives_21, ccR_gives_1_1, ccR_gives_4_1, ccR_gives_6_1, ccR_gives_7_1, ccR_gives_10_2, ccR_gives_10_1, ccR_gives_12_1, ccR_gives_14_1, ccR_gives_18_1, eB, am_kI_x, am_kV_x, am_kI_i, am_nI_i, am_kV_i, am_nV_i, ↓reduceIte, eq_self, if_true, if_false, c_in, c_tn, pn_add, pn_mul, pn_subc, pn_addm, c_le_t, c_le_f, c_lt_t, c_lt_f, c_eq_f, c_eqm, bi_z, bi_1, bi_b, bi_T, bi_F, ite_not, up_eq, up_ne, or_self, or_true, true_or, or_false, false_or, and_true, true_and, and_self, not_true_eq_false, not_false_eq_true, Bool.false_eq_true]
    · have hoN := ho
      rw [fo_no ha] at hoN
      rw [← ho, hoN]
      have eN := fun d => rR_givenByN hN e0 hc hm T' d
      have vn := VG_no (W := h.2 374) (N := N) (c := c) (m := m) (by omega) (fun t ht h1 o' ho' h2 => by
        cases hb : m.testBit o' with
        | true => rfl
        | false => exact absurd (anyN_iff.mpr ⟨o', (ws_iff.mp h2).1, avG_iff.mpr ⟨⟨t, ht, h1, h2⟩, hb⟩⟩) ha)
      rw [ggR_gives_12]
      simp -implicitDefEqProofs (disch := (first | omega | assumption | exact am_isS_3 | exact am_isS_25 | exact am_isX_356 | exact am_isX_359)) only [ggR_gives_0, ggR_gives_1, ggR_gives_2, ggR_gives_3, ggR_gives_4, ggR_gives_5, ggR_gives_6, ggR_gives_7, ggR_gives_8, ggR_gives_10, ggR_gives_11, ggR_gives_13, ggR_gives_15, ggR_gives_16, ggR_gives_17, ggR_gives_18, ggR_gives_19, ggR_gives_20, ggR_gives_21, ccR_gives_1_1, ccR_gives_4_1, ccR_gives_6_1, ccR_gives_7_1, ccR_gives_10_2, ccR_gives_10_1, ccR_gives_12_1, ccR_gives_14_1, ccR_gives_18_1, eN, vn, am_kI_x, am_kV_x, am_kI_i, am_nI_i, am_kV_i, am_nV_i, ↓reduceIte, eq_self, if_true, if_false, c_in, c_tn, pn_add, pn_mul, pn_subc, pn_addm, c_le_t, c_le_f, c_lt_t, c_lt_f, c_eq_f, c_eqm, bi_z, bi_1, bi_b, bi_T, bi_F, ite_not, up_eq, up_ne, or_self, or_true, true_or, or_false, false_or, and_true, true_and, and_self, not_true_eq_false, not_false_eq_true, Bool.false_eq_true]
  | succ k ih =>
    intro o ho
    have ih := ih (o + 1) (by omega)
    have hna : ¬ avG (h.2 374) N c m o = true := fun q => by
      by_cases ha : anyN (avG (h.2 374) N c m) N = true
      · exact (fo_at ha).2.2 o (by omega) q
      · exact ha (anyN_iff.mpr ⟨o, by omega, q⟩)
    have eB := fun d => rR_givenBy hN e0 hc hm (o := o) (by omega) hW T' d
    rw [if_neg hna] at eB
    have hne := ne_m1 (a := VG (h.2 374) N c m) (by omega)
    rw [ggR_gives_12]
    simp -implicitDefEqProofs (disch := (first | omega | assumption | exact am_isS_3 | exact am_isS_25 | exact am_isX_356 | exact am_isX_359)) only [ggR_gives_0, ggR_gives_1, ggR_gives_2, ggR_gives_3, ggR_gives_4, ggR_gives_5, ggR_gives_6, ggR_gives_7, ggR_gives_8, ggR_gives_10, ggR_gives_11, ggR_gives_13, ggR_gives_15, ggR_gives_16, ggR_gives_17, ggR_gives_18, ggR_gives_19, ggR_gives_20, ggR_gives_21, ccR_gives_1_1, ccR_gives_4_1, ccR_gives_6_1, ccR_gives_7_1, ccR_gives_10_2, ccR_gives_10_1, ccR_gives_12_1, ccR_gives_14_1, ccR_gives_18_1, eB, hne, am_kI_x, am_kV_x, am_kI_i, am_nI_i, am_kV_i, am_nV_i, ↓reduceIte, eq_self, if_true, if_false, c_in, c_tn, pn_add, pn_mul, pn_subc, pn_addm, c_le_t, c_le_f, c_lt_t, c_lt_f, c_eq_f, c_eqm, bi_z, bi_1, bi_b, bi_T, bi_F, ite_not, up_eq, up_ne, or_self, or_true, true_or, or_false, false_or, and_true, true_and, and_self, not_true_eq_false, not_false_eq_true, Bool.false_eq_true]
    exact ih
theorem rR_gives_9 {h : am_H} {N x : Nat} (hN : N ≤ 8) (e0 : h.2 374 0 = (Int32.ofNat N)) (hx : x < N) (hW : ∀ c, c < N → rm (h.2 374 (43 + 9 * c + 5)) 8) (T : tblG h (h.2 374) N 0) (d : Nat) : ∀ (k c to : Nat) (v5 : Value), c + k = x + 1 → (k = 0 → to = tkG (h.2 374) N x (seqG (h.2 374) N x)) → am_go (am_cl (d + 5)) qR_gives 9 [.ref 373, .int (Int32.ofNat x), .int (Int32.ofNat (seqG (h.2 374) N c)), .int (Int32.ofNat to), .int (Int32.ofNat c), v5] [] h = some (.inl (some (gfG (h.2 374) N x)), h) := by
  intro k
  induction k with
  | zero =>
    intro c to v5 hc hto
    have hto := hto rfl
    have hc : c = x + 1 := by omega
    subst hc
    subst hto
    unfold gfG
    rw [ggR_gives_9]
    by_cases ht : tkG (h.2 374) N x (seqG (h.2 374) N x) < N
    · rw [if_pos ht]
      simp -implicitDefEqProofs (disch := (first | omega | assumption | exact am_isS_3 | exact am_isS_25 | exact am_isX_356 | exact am_isX_359)) only [ggR_gives_0, ggR_gives_1, ggR_gives_2, ggR_gives_3, ggR_gives_4, ggR_gives_5, ggR_gives_6, ggR_gives_7, ggR_gives_8, ggR_gives_10, ggR_gives_11, ggR_gives_13, ggR_gives_14, ggR_gives_15, ggR_gives_16, ggR_gives_17, ggR_gives_18, ggR_gives_19, ggR_gives_20, ggR_gives_21, ccR_gives_1_1, ccR_gives_4_1, ccR_gives_6_1, ccR_gives_7_1, ccR_gives_10_2, ccR_gives_10_1, ccR_gives_12_1, ccR_gives_14_1, ccR_gives_18_1, rR_children, e0, am_kI_x, am_kV_x, am_kI_i, am_nI_i, am_kV_i, am_nV_i, ↓reduceIte, eq_self, if_true, if_false, c_in, c_tn, pn_add, pn_mul, pn_subc, pn_addm, c_le_t, c_le_f, c_lt_t, c_lt_f, c_eq_f, c_eqm, bi_z, bi_1, bi_b, bi_T, bi_F, ite_not, up_eq, up_ne, or_self, or_true, true_or, or_false, false_or, and_true, true_and, and_self, not_true_eq_false, not_false_eq_true, Bool.false_eq_true]
    · have hn := (tkG_no (by omega) ht).1
      rw [if_neg ht]
      simp -implicitDefEqProofs (disch := (first | omega | assumption | exact am_isS_3 | exact am_isS_25 | exact am_isX_356 | exact am_isX_359)) only [ggR_gives_0, ggR_gives_1, ggR_gives_2, ggR_gives_3, ggR_gives_4, ggR_gives_5, ggR_gives_6, ggR_gives_7, ggR_gives_8, ggR_gives_10, ggR_gives_11, ggR_gives_13, ggR_gives_14, ggR_gives_15, ggR_gives_16, ggR_gives_17, ggR_gives_18, ggR_gives_19, ggR_gives_20, ggR_gives_21, ccR_gives_1_1, ccR_gives_4_1, ccR_gives_6_1, ccR_gives_7_1, ccR_gives_10_2, ccR_gives_10_1, ccR_gives_12_1, ccR_gives_14_1, ccR_gives_18_1, rR_children, e0, hn, am_kI_x, am_kV_x, am_kI_i, am_nI_i, am_kV_i, am_nV_i, ↓reduceIte, eq_self, if_true, if_false, c_in, c_tn, pn_add, pn_mul, pn_subc, pn_addm, c_le_t, c_le_f, c_lt_t, c_lt_f, c_eq_f, c_eqm, bi_z, bi_1, bi_b, bi_T, bi_F, ite_not, up_eq, up_ne, or_self, or_true, true_or, or_false, false_or, and_true, true_and, and_self, not_true_eq_false, not_false_eq_true, Bool.false_eq_true]
  | succ k ih =>
    intro c to v5 hc _
    have hcN : c < N := by omega
    have sl := seqG_lt (W := h.2 374) hN c
    have T' : tblG h (h.2 374) N (c + 1) := fun c' m' h1 h2 h3 => T c' m' (by omega) h2 h3
    have et := T c (seqG (h.2 374) N c) (by omega) (by omega) sl
    have vl := VG_le (W := h.2 374) (N := N) (c := c) (m := seqG (h.2 374) N c)
    have eB := fun d => rR_givenBy hN e0 hcN sl (o := c) hcN hW T' d
    have ih := ih (c + 1) (tkG (h.2 374) N c (seqG (h.2 374) N c)) (.int (Int32.ofNat (VG (h.2 374) N c (seqG (h.2 374) N c)))) (by omega) (fun hk => by rw [show c = x by omega])
    have hseq : seqG (h.2 374) N (c + 1) = stG (h.2 374) N c (seqG (h.2 374) N c) := rfl
    rw [hseq] at ih
    have l14 : am_go (am_cl (d + 5)) qR_gives 14 [.ref 373, .int (Int32.ofNat x), .int (Int32.ofNat (seqG (h.2 374) N c)), .int (Int32.ofNat (tkG (h.2 374) N c (seqG (h.2 374) N c))), .int (Int32.ofNat c), .int (Int32.ofNat (VG (h.2 374) N c (seqG (h.2 374) N c)))] [] h = some (.inl (some (gfG (h.2 374) N x)), h) := by
      rw [← ih]
      unfold stG
      by_cases ht : tkG (h.2 374) N c (seqG (h.2 374) N c) < N
      · obtain ⟨o1, o2⟩ := ob_at sl (o := tkG (h.2 374) N c (seqG (h.2 374) N c)) (by omega)
        rw [if_pos ht]
        simp -implicitDefEqProofs (disch := (first | omega | assumption | exact am_isS_3 | exact am_isS_25 | exact am_isX_356 | exact am_isX_359)) only [ggR_gives_0, ggR_gives_1, ggR_gives_2, ggR_gives_3, ggR_gives_4, ggR_gives_5, ggR_gives_6, ggR_gives_7, ggR_gives_8, ggR_gives_10, ggR_gives_11, ggR_gives_13, ggR_gives_14, ggR_gives_15, ggR_gives_16, ggR_gives_17, ggR_gives_18, ggR_gives_19, ggR_gives_20, ggR_gives_21, ccR_gives_1_1, ccR_gives_4_1, ccR_gives_6_1, ccR_gives_7_1, ccR_gives_10_2, ccR_gives_10_1, ccR_gives_12_1, ccR_gives_14_1, ccR_gives_18_1, rR_children, e0, o1, am_kI_x, am_kV_x, am_kI_i, am_nI_i, am_kV_i, am_nV_i, ↓reduceIte, eq_self, if_true, if_false, c_in, c_tn, pn_add, pn_mul, pn_subc, pn_addm, c_le_t, c_le_f, c_lt_t, c_lt_f, c_eq_f, c_eqm, bi_z, bi_1, bi_b, bi_T, bi_F, ite_not, up_eq, up_ne, or_self, or_true, true_or, or_false, false_or, and_true, true_and, and_self, not_true_eq_false, not_false_eq_true, Bool.false_eq_true]
      · have hn := (tkG_no hcN ht).1
        rw [if_neg ht]
        simp -implicitDefEqProofs (disch := (first | omega | assumption | exact am_isS_3 | exact am_isS_25 | exact am_isX_356 | exact am_isX_359)) only [ggR_gives_0, ggR_gives_1, ggR_gives_2, ggR_gives_3, ggR_gives_4, ggR_gives_5, ggR_gives_6, ggR_gives_7, ggR_gives_8, ggR_gives_10, ggR_gives_11, ggR_gives_13, ggR_gives_14, ggR_gives_15, ggR_gives_16, ggR_gives_17, ggR_gives_18, ggR_gives_19, ggR_gives_20, ggR_gives_21, ccR_gives_1_1, ccR_gives_4_1, ccR_gives_6_1, ccR_gives_7_1, ccR_gives_10_2, ccR_gives_10_1, ccR_gives_12_1, ccR_gives_14_1, ccR_gives_18_1, rR_children, e0, hn, or_zero32, am_kI_x, am_kV_x, am_kI_i, am_nI_i, am_kV_i, am_nV_i, ↓reduceIte, eq_self, if_true, if_false, c_in, c_tn, pn_add, pn_mul, pn_subc, pn_addm, c_le_t, c_le_f, c_lt_t, c_lt_f, c_eq_f, c_eqm, bi_z, bi_1, bi_b, bi_T, bi_F, ite_not, up_eq, up_ne, or_self, or_true, true_or, or_false, false_or, and_true, true_and, and_self, not_true_eq_false, not_false_eq_true, Bool.false_eq_true]
    rw [ggR_gives_9]
    by_cases h1 : avG (h.2 374) N c (seqG (h.2 374) N c) c = true
    · rw [if_pos h1] at eB
      have ht : tkG (h.2 374) N c (seqG (h.2 374) N c) = c := if_pos h1
      rw [ht] at l14
      simp -implicitDefEqProofs (disch := (first | omega | assumption | exact am_isS_3 | exact am_isS_25 | exact am_isX_356 | exact am_isX_359)) only [ggR_gives_0, ggR_gives_1, ggR_gives_2, ggR_gives_3, ggR_gives_4, ggR_gives_5, ggR_gives_6, ggR_gives_7, ggR_gives_8, ggR_gives_10, ggR_gives_11, ggR_gives_13, ggR_gives_15, ggR_gives_16, ggR_gives_17, ggR_gives_18, ggR_gives_19, ggR_gives_20, ggR_gives_21, ccR_gives_1_1, ccR_gives_4_1, ccR_gives_6_1, ccR_gives_7_1, ccR_gives_10_2, ccR_gives_10_1, ccR_gives_12_1, ccR_gives_14_1, ccR_gives_18_1, rR_givenAt, et, eB, am_kI_x, am_kV_x, am_kI_i, am_nI_i, am_kV_i, am_nV_i, ↓reduceIte, eq_self, if_true, if_false, c_in, c_tn, pn_add, pn_mul, pn_subc, pn_addm, c_le_t, c_le_f, c_lt_t, c_lt_f, c_eq_f, c_eqm, bi_z, bi_1, bi_b, bi_T, bi_F, ite_not, up_eq, up_ne, or_self, or_true, true_or, or_false, false_or, and_true, true_and, and_self, not_true_eq_false, not_false_eq_true, Bool.false_eq_true]
      exact l14
    · rw [if_neg h1] at eB
      have ht : tkG (h.2 374) N c (seqG (h.2 374) N c) = fo (avG (h.2 374) N c (seqG (h.2 374) N c)) N := if_neg h1
      have l12 := rR_gives_12 hN e0 hcN sl hW T (Int32.ofNat x) d (fo (avG (h.2 374) N c (seqG (h.2 374) N c)) N) 0 (by omega)
      have hne := ne_m1 (a := VG (h.2 374) N c (seqG (h.2 374) N c)) (by omega)
      rw [ht] at l14
      simp -implicitDefEqProofs (disch := (first | omega | assumption | exact am_isS_3 | exact am_isS_25 | exact am_isX_356 | exact am_isX_359)) only [ggR_gives_0, ggR_gives_1, ggR_gives_2, ggR_gives_3, ggR_gives_4, ggR_gives_5, ggR_gives_6, ggR_gives_7, ggR_gives_8, ggR_gives_10, ggR_gives_11, ggR_gives_13, ggR_gives_15, ggR_gives_16, ggR_gives_17, ggR_gives_18, ggR_gives_19, ggR_gives_20, ggR_gives_21, ccR_gives_1_1, ccR_gives_4_1, ccR_gives_6_1, ccR_gives_7_1, ccR_gives_10_2, ccR_gives_10_1, ccR_gives_12_1, ccR_gives_14_1, ccR_gives_18_1, rR_givenAt, et, eB, hne, am_kI_x, am_kV_x, am_kI_i, am_nI_i, am_kV_i, am_nV_i, ↓reduceIte, eq_self, if_true, if_false, c_in, c_tn, pn_add, pn_mul, pn_subc, pn_addm, c_le_t, c_le_f, c_lt_t, c_lt_f, c_eq_f, c_eqm, bi_z, bi_1, bi_b, bi_T, bi_F, ite_not, up_eq, up_ne, or_self, or_true, true_or, or_false, false_or, and_true, true_and, and_self, not_true_eq_false, not_false_eq_true, Bool.false_eq_true]
      exact l12.trans l14
theorem T_gives (x : Int32) : Two qF_gives [.ref 0, .int x] qR_gives [.ref 373, .int x] (am_ctt 21) := by
  intro d hC hR J
  have J0 := J.thr (Int32.ofNat 0)
  obtain ⟨⟨N, G, R, okt, okc, okk, RL⟩, -⟩ := id J
  have hN := R.1
  have r3 := R.2.2.1
  have r4 := R.2.2.2.1
  have e0 : (am_up hR 373 0 (Int32.ofNat 0)).2 374 0 = (Int32.ofNat N) := by rw [up_o (by omega)]; exact r3
  have hW : ∀ c, c < N → rm (hR.2 374 (43 + 9 * c + 5)) 8 := fun c hc => (okc c hc).2.2.2.2.2.1
  have hW0 : ∀ c, c < N → rm ((am_up hR 373 0 (Int32.ofNat 0)).2 374 (43 + 9 * c + 5)) 8 := by rw [up_o (by omega)]; exact hW
  obtain ⟨h1, a1, a2, a3, a4⟩ := xM_settleGifts_l hW (d + 116) N 0 0 hC (by omega) R (Nat.zero_add _) (fun j hj => by omega)
  have a1 : am_go (am_cl (d + 118)) qM_settleGifts 1 [.ref 365, .ref 3, .int (Int32.ofNat 0), .int (Int32.ofNat 0), .int (Int32.ofNat 0)] [] hC = _ := a1
  have aS : am_cl (d + 119) qM_settleGifts [.ref 365, .ref 3] hC = some (.inl (some ((Int32.ofNat (VG (hR.2 374) N 0 0)))), h1) := by
    rw [uM_settleGifts, ggM_settleGifts_0]; exact a1
  obtain ⟨h2, b1, b2, b3, b4⟩ := rR_laysGiven hN e0 hW0 (d + 113)
  have b1 : am_cl (d + 119) qR_laysGiven [.ref 373] (am_up hR 373 0 (Int32.ofNat 0)) = _ := b1
  rw [up_o (by omega)] at b3
  have w2 : h2.2 374 = hR.2 374 := by rw [b4 374 (by omega), up_o (by omega)]
  have J1 : J2 h1 h2 := (J0.hi (fun p hp => a4 p (by omega)) (fun _ _ => rfl)).of (fun _ _ _ _ _ _ _ _ => rfl) rfl rfl rfl rfl (fun j _ => by rw [b4 374 (by omega)]) (b4 375 (by omega)) (b4 378 (by omega)) (b4 379 (by omega)) (fun i _ => by rw [b4 373 (by omega)])
  have z0 : h2.2 373 0 = (Int32.ofNat 0) := by rw [b4 373 (by omega)]; exact up_eq rfl rfl
  have vl := VG_le (W := hR.2 374) (N := N) (c := 0) (m := 0)
  by_cases hm : x = -1
  · subst hm
    have t0 := b3 0 0 (by omega) (by omega) (by omega)
    refine ⟨h1, h2, J1, b2, Or.inl ⟨(Int32.ofNat (VG (hR.2 374) N 0 0)), a2, z0, ?_, ?_⟩⟩
    · simp -implicitDefEqProofs (disch := (first | omega | assumption | exact am_isS_3 | exact am_isS_25 | exact am_isX_356 | exact am_isX_359)) only [uF_gives, ggF_gives_0, ggF_gives_1, ggF_gives_2, ggF_gives_3, ggF_gives_4, ggF_gives_5, ccF_gives_1_1, ccF_gives_2_1, aS, am_kI_x, am_kV_x, am_kI_i, am_nI_i, am_kV_i, am_nV_i, ↓reduceIte, eq_self, if_true, if_false, c_in, c_tn, pn_add, pn_mul, pn_subc, pn_addm, c_le_t, c_le_f, c_lt_t, c_lt_f, c_eq_f, c_eqm, bi_z, bi_1, bi_b, bi_T, bi_F, ite_not, up_eq, up_ne, or_self, or_true, true_or, or_false, false_or, and_true, true_and, and_self, not_true_eq_false, not_false_eq_true, Bool.false_eq_true]
    · simp -implicitDefEqProofs (disch := (first | omega | assumption | exact am_isS_3 | exact am_isS_25 | exact am_isX_356 | exact am_isX_359)) only [uR_gives, ggR_gives_0, ggR_gives_1, ggR_gives_2, ggR_gives_3, ggR_gives_4, ggR_gives_5, ggR_gives_6, ggR_gives_7, ggR_gives_8, ggR_gives_10, ggR_gives_11, ggR_gives_13, ggR_gives_14, ggR_gives_15, ggR_gives_16, ggR_gives_17, ggR_gives_18, ggR_gives_19, ggR_gives_20, ggR_gives_21, ccR_gives_1_1, ccR_gives_4_1, ccR_gives_6_1, ccR_gives_7_1, ccR_gives_10_2, ccR_gives_10_1, ccR_gives_12_1, ccR_gives_14_1, ccR_gives_18_1, rR_throwsIf_f, k_373, b1, rR_givenAt, t0, am_kI_x, am_kV_x, am_kI_i, am_nI_i, am_kV_i, am_nV_i, ↓reduceIte, eq_self, if_true, if_false, c_in, c_tn, pn_add, pn_mul, pn_subc, pn_addm, c_le_t, c_le_f, c_lt_t, c_lt_f, c_eq_f, c_eqm, bi_z, bi_1, bi_b, bi_T, bi_F, ite_not, up_eq, up_ne, or_self, or_true, true_or, or_false, false_or, and_true, true_and, and_self, not_true_eq_false, not_false_eq_true, Bool.false_eq_true]
  · rcases ch_cases hN x with ⟨c, hc, rfl⟩ | ⟨q1, q2⟩
    · have g9 := rR_gives_9 (h := h2) hN (by rw [w2]; exact r3) hc (by rw [w2]; exact hW) (by rw [w2]; exact b3) (d + 114) (c + 1) 0 0 .null (by omega) (fun z => by omega)
      rw [w2] at g9
      have ec := a3 c hc
      refine ⟨h1, h2, J1, b2, Or.inl ⟨gfG (hR.2 374) N c, a2, z0, ?_, ?_⟩⟩
      · simp -implicitDefEqProofs (disch := (first | omega | assumption | exact am_isS_3 | exact am_isS_25 | exact am_isX_356 | exact am_isX_359)) only [uF_gives, ggF_gives_0, ggF_gives_1, ggF_gives_2, ggF_gives_3, ggF_gives_4, ggF_gives_5, ccF_gives_1_1, ccF_gives_2_1, hm, xF_needChild hN r4 hc, aS, ec, am_kI_x, am_kV_x, am_kI_i, am_nI_i, am_kV_i, am_nV_i, ↓reduceIte, eq_self, if_true, if_false, c_in, c_tn, pn_add, pn_mul, pn_subc, pn_addm, c_le_t, c_le_f, c_lt_t, c_lt_f, c_eq_f, c_eqm, bi_z, bi_1, bi_b, bi_T, bi_F, ite_not, up_eq, up_ne, or_self, or_true, true_or, or_false, false_or, and_true, true_and, and_self, not_true_eq_false, not_false_eq_true, Bool.false_eq_true]
      · simp -implicitDefEqProofs (disch := (first | omega | assumption | exact am_isS_3 | exact am_isS_25 | exact am_isX_356 | exact am_isX_359)) only [uR_gives, ggR_gives_0, ggR_gives_1, ggR_gives_2, ggR_gives_3, ggR_gives_4, ggR_gives_5, ggR_gives_6, ggR_gives_7, ggR_gives_8, ggR_gives_10, ggR_gives_11, ggR_gives_13, ggR_gives_14, ggR_gives_15, ggR_gives_16, ggR_gives_17, ggR_gives_18, ggR_gives_19, ggR_gives_20, ggR_gives_21, ccR_gives_1_1, ccR_gives_4_1, ccR_gives_6_1, ccR_gives_7_1, ccR_gives_10_2, ccR_gives_10_1, ccR_gives_12_1, ccR_gives_14_1, ccR_gives_18_1, hm, rR_noChild, rR_throwsIf_f, k_373, up_o, r3, b1, am_kI_x, am_kV_x, am_kI_i, am_nI_i, am_kV_i, am_nV_i, ↓reduceIte, eq_self, if_true, if_false, c_in, c_tn, pn_add, pn_mul, pn_subc, pn_addm, c_le_t, c_le_f, c_lt_t, c_lt_f, c_eq_f, c_eqm, bi_z, bi_1, bi_b, bi_T, bi_F, ite_not, up_eq, up_ne, or_self, or_true, true_or, or_false, false_or, and_true, true_and, and_self, not_true_eq_false, not_false_eq_true, Bool.false_eq_true]
        exact g9
    · refine ⟨am_th hC, am_up (am_up hR 373 0 (Int32.ofNat 0)) 373 0 (Int32.ofNat 1), (J0.thr (Int32.ofNat 1)).th, rfl, Or.inr ⟨3, 1, (Int32.ofNat 0), rfl, by decide, up_eq rfl rfl, ?_, ?_⟩⟩
      · simp -implicitDefEqProofs (disch := (first | omega | assumption | exact am_isS_3 | exact am_isS_25 | exact am_isX_356 | exact am_isX_359)) only [uF_gives, ggF_gives_0, ggF_gives_1, ggF_gives_2, ggF_gives_3, ggF_gives_4, ggF_gives_5, ccF_gives_1_1, ccF_gives_2_1, hm, xF_needChild_x r4 q2, am_kI_x, am_kV_x, am_kI_i, am_nI_i, am_kV_i, am_nV_i, ↓reduceIte, eq_self, if_true, if_false, c_in, c_tn, pn_add, pn_mul, pn_subc, pn_addm, c_le_t, c_le_f, c_lt_t, c_lt_f, c_eq_f, c_eqm, bi_z, bi_1, bi_b, bi_T, bi_F, ite_not, up_eq, up_ne, or_self, or_true, true_or, or_false, false_or, and_true, true_and, and_self, not_true_eq_false, not_false_eq_true, Bool.false_eq_true]
      · simp -implicitDefEqProofs (disch := (first | omega | assumption | exact am_isS_3 | exact am_isS_25 | exact am_isX_356 | exact am_isX_359)) only [uR_gives, ggR_gives_0, ggR_gives_1, ggR_gives_2, ggR_gives_3, ggR_gives_4, ggR_gives_5, ggR_gives_6, ggR_gives_7, ggR_gives_8, ggR_gives_10, ggR_gives_11, ggR_gives_13, ggR_gives_14, ggR_gives_15, ggR_gives_16, ggR_gives_17, ggR_gives_18, ggR_gives_19, ggR_gives_20, ggR_gives_21, ccR_gives_1_1, ccR_gives_4_1, ccR_gives_6_1, ccR_gives_7_1, ccR_gives_10_2, ccR_gives_10_1, ccR_gives_12_1, ccR_gives_14_1, ccR_gives_18_1, hm, rR_noChild, rR_throwsIf_t, up_o, r3, q1, k_373, am_kI_x, am_kV_x, am_kI_i, am_nI_i, am_kV_i, am_nV_i, ↓reduceIte, eq_self, if_true, if_false, c_in, c_tn, pn_add, pn_mul, pn_subc, pn_addm, c_le_t, c_le_f, c_lt_t, c_lt_f, c_eq_f, c_eqm, bi_z, bi_1, bi_b, bi_T, bi_F, ite_not, up_eq, up_ne, or_self, or_true, true_or, or_false, false_or, and_true, true_and, and_self, not_true_eq_false, not_false_eq_true, Bool.false_eq_true]
