/-! what to feel -/
def partN (W : Nat → Int32) (p : Nat → Bool) (a t : Nat) : Nat := cnt (fun s => p s && decide (felt W a s = felt W a t)) 9
def gpN (W : Nat → Int32) (p : Nat → Bool) (a : Nat) : Nat := itr (fun t m => max m (if p t = true then partN W p a t else 0)) 9 0 0
theorem partN_le {W : Nat → Int32} {p : Nat → Bool} {a t : Nat} : partN W p a t ≤ 9 := cnt_le _
theorem gpN_le {W : Nat → Int32} {p : Nat → Bool} {a : Nat} : gpN W p a ≤ 9 := itr_inv (fun _ (m : Nat) => m ≤ 9) 9 0 0 (by omega) (fun i m _ _ h => by
  have := partN_le (W := W) (p := p) (a := a) (t := i)
  split <;> omega)
theorem xE_partOf {h : am_H} {W : Nat → Int32} {N G a t : Nat} (R : RelS h 3 W N G) (p : Nat → Bool) (ha : a ≤ 2) (ht : t < 9) (d : Nat) : am_cl (d + 2) qE_partOf [.ref 3, .int ((bset p 9)), .int (Int32.ofNat a), .int (Int32.ofNat t)] h = some (.inl (some ((Int32.ofNat (partN W p a t)))), h) := by
  unfold partN
  rw [uE_partOf, ggE_partOf_0, ← itr_cnt]
  refine lp (N := 9) (L := fun c (b : Nat) => [.ref 3, .int (bset p 9), .int (Int32.ofNat a), .int (Int32.ofNat t), .int (Int32.ofNat b), .int (Int32.ofNat c)]) (H := fun _ => h) (R := fun b => some (.inl (some ((Int32.ofNat b))), h)) _ (fun c b hc => ?_) (fun b => ?_) 9 0 0 (by omega)
  · rw [ggE_partOf_1]
    have hz := has_z p (N := 9) (c := c) (by omega) hc
    have e1 := fun d => xE_feltOf R ha hc d
    have e2 := fun d => xE_feltOf R ha ht d
    by_cases hp : p c = true
    · by_cases hq : felt W a c = felt W a t
      · have hx : (p c && decide (felt W a c = felt W a t)) = true := by rw [hp, decide_eq_true hq]; rfl
        rw [if_pos hx]
        simp -implicitDefEqProofs (disch := (first | omega | assumption | exact am_isS_3 | exact am_isS_25 | exact am_isX_356 | exact am_isX_359)) only [ggE_partOf_0, ggE_partOf_2, ggE_partOf_3, ggE_partOf_4, ggE_partOf_5, ggE_partOf_6, ccE_partOf_3_2, ccE_partOf_3_1, hz, hp, e1, e2, hq, am_kI_x, am_kV_x, am_kI_i, am_nI_i, am_kV_i, am_nV_i, ↓reduceIte, eq_self, if_true, if_false, c_in, c_tn, pn_add, pn_mul, pn_subc, pn_addm, c_le_t, c_le_f, c_lt_t, c_lt_f, c_eq_f, c_eqm, bi_z, bi_1, bi_b, bi_T, bi_F, ite_not, up_eq, up_ne, or_self, or_true, true_or, or_false, false_or, and_true, true_and, and_self, not_true_eq_false, not_false_eq_true, Bool.false_eq_true]
      · have hx : ¬ (p c && decide (felt W a c = felt W a t)) = true := by rw [decide_eq_false hq, Bool.and_false]; decide
        rw [if_neg hx]
        simp -implicitDefEqProofs (disch := (first | omega | assumption | exact am_isS_3 | exact am_isS_25 | exact am_isX_356 | exact am_isX_359)) only [ggE_partOf_0, ggE_partOf_2, ggE_partOf_3, ggE_partOf_4, ggE_partOf_5, ggE_partOf_6, ccE_partOf_3_2, ccE_partOf_3_1, hz, hp, e1, e2, hq, Nat.add_zero, am_kI_x, am_kV_x, am_kI_i, am_nI_i, am_kV_i, am_nV_i, ↓reduceIte, eq_self, if_true, if_false, c_in, c_tn, pn_add, pn_mul, pn_subc, pn_addm, c_le_t, c_le_f, c_lt_t, c_lt_f, c_eq_f, c_eqm, bi_z, bi_1, bi_b, bi_T, bi_F, ite_not, up_eq, up_ne, or_self, or_true, true_or, or_false, false_or, and_true, true_and, and_self, not_true_eq_false, not_false_eq_true, Bool.false_eq_true]
    · have hx : ¬ (p c && decide (felt W a c = felt W a t)) = true := by rw [Bool.eq_false_iff.mpr hp, Bool.false_and]; decide
      rw [if_neg hx]
      simp -implicitDefEqProofs (disch := (first | omega | assumption | exact am_isS_3 | exact am_isS_25 | exact am_isX_356 | exact am_isX_359)) only [ggE_partOf_0, ggE_partOf_2, ggE_partOf_3, ggE_partOf_4, ggE_partOf_5, ggE_partOf_6, ccE_partOf_3_2, ccE_partOf_3_1, hz, hp, Nat.add_zero, am_kI_x, am_kV_x, am_kI_i, am_nI_i, am_kV_i, am_nV_i, ↓reduceIte, eq_self, if_true, if_false, c_in, c_tn, pn_add, pn_mul, pn_subc, pn_addm, c_le_t, c_le_f, c_lt_t, c_lt_f, c_eq_f, c_eqm, bi_z, bi_1, bi_b, bi_T, bi_F, ite_not, up_eq, up_ne, or_self, or_true, true_or, or_false, false_or, and_true, true_and, and_self, not_true_eq_false, not_false_eq_true, Bool.false_eq_true]
  · rw [ggE_partOf_1]
    simp -implicitDefEqProofs (disch := (first | omega | assumption | exact am_isS_3 | exact am_isS_25 | exact am_isX_356 | exact am_isX_359)) only [ggE_partOf_0, ggE_partOf_2, ggE_partOf_3, ggE_partOf_4, ggE_partOf_5, ggE_partOf_6, ccE_partOf_3_2, ccE_partOf_3_1, am_kI_x, am_kV_x, am_kI_i, am_nI_i, am_kV_i, am_nV_i, ↓reduceIte, eq_self, if_true, if_false, c_in, c_tn, pn_add, pn_mul, pn_subc, pn_addm, c_le_t, c_le_f, c_lt_t, c_lt_f, c_eq_f, c_eqm, bi_z, bi_1, bi_b, bi_T, bi_F, ite_not, up_eq, up_ne, or_self, or_true, true_or, or_false, false_or, and_true, true_and, and_self, not_true_eq_false, not_false_eq_true, Bool.false_eq_true]
theorem xE_greatestPart {h : am_H} {W : Nat → Int32} {N G a : Nat} (R : RelS h 3 W N G) (p : Nat → Bool) (ha : a ≤ 2) (d : Nat) : am_cl (d + 3) qE_greatestPart [.ref 3, .int ((bset p 9)), .int (Int32.ofNat a)] h = some (.inl (some ((Int32.ofNat (gpN W p a)))), h) := by
  unfold gpN
  rw [uE_greatestPart, ggE_greatestPart_0]
  have l : ∀ k c (b : Nat), b ≤ 9 → c + k = 9 → am_go (am_cl (d + 2)) qE_greatestPart 1 [.ref 3, .int (bset p 9), .int (Int32.ofNat a), .int (Int32.ofNat b), .int (Int32.ofNat c)] [] h = some (.inl (some ((Int32.ofNat (itr (fun t m => max m (if p t = true then partN W p a t else 0)) k c b)))), h) := by
    intro k
    induction k with
    | zero =>
      intro c b hb hc
      rw [ggE_greatestPart_1]
      simp -implicitDefEqProofs (disch := (first | omega | assumption | exact am_isS_3 | exact am_isS_25 | exact am_isX_356 | exact am_isX_359)) only [ggE_greatestPart_0, ggE_greatestPart_2, ggE_greatestPart_3, ggE_greatestPart_4, ggE_greatestPart_5, ccE_greatestPart_3_1, itr, am_kI_x, am_kV_x, am_kI_i, am_nI_i, am_kV_i, am_nV_i, ↓reduceIte, eq_self, if_true, if_false, c_in, c_tn, pn_add, pn_mul, pn_subc, pn_addm, c_le_t, c_le_f, c_lt_t, c_lt_f, c_eq_f, c_eqm, bi_z, bi_1, bi_b, bi_T, bi_F, ite_not, up_eq, up_ne, or_self, or_true, true_or, or_false, false_or, and_true, true_and, and_self, not_true_eq_false, not_false_eq_true, Bool.false_eq_true]
    | succ k ih =>
      intro c b hb hc
      have hz := has_z p (N := 9) (c := c) (by omega) (by omega)
      have e1 := fun d => xE_partOf R p ha (t := c) (by omega) d
      have le := partN_le (W := W) (p := p) (a := a) (t := c)
      show _ = (some (.inl (some ((Int32.ofNat (itr _ k (c + 1) (max b (if p c = true then partN W p a c else 0)))))), h) : Option am_R)
      rw [ggE_greatestPart_1]
      by_cases hp : p c = true
      · rw [if_pos hp, ← ih (c + 1) _ (by omega) (by omega)]
        simp -implicitDefEqProofs (disch := (first | omega | assumption | exact am_isS_3 | exact am_isS_25 | exact am_isX_356 | exact am_isX_359)) only [ggE_greatestPart_0, ggE_greatestPart_2, ggE_greatestPart_3, ggE_greatestPart_4, ggE_greatestPart_5, ccE_greatestPart_3_1, hz, hp, e1, pn_max, am_kI_x, am_kV_x, am_kI_i, am_nI_i, am_kV_i, am_nV_i, ↓reduceIte, eq_self, if_true, if_false, c_in, c_tn, pn_add, pn_mul, pn_subc, pn_addm, c_le_t, c_le_f, c_lt_t, c_lt_f, c_eq_f, c_eqm, bi_z, bi_1, bi_b, bi_T, bi_F, ite_not, up_eq, up_ne, or_self, or_true, true_or, or_false, false_or, and_true, true_and, and_self, not_true_eq_false, not_false_eq_true, Bool.false_eq_true]
      · rw [if_neg hp, Nat.max_zero, ← ih (c + 1) _ (by omega) (by omega)]
        simp -implicitDefEqProofs (disch := (first | omega | assumption | exact am_isS_3 | exact am_isS_25 | exact am_isX_356 | exact am_isX_359)) only [ggE_greatestPart_0, ggE_greatestPart_2, ggE_greatestPart_3, ggE_greatestPart_4, ggE_greatestPart_5, ccE_greatestPart_3_1, hz, hp, am_kI_x, am_kV_x, am_kI_i, am_nI_i, am_kV_i, am_nV_i, ↓reduceIte, eq_self, if_true, if_false, c_in, c_tn, pn_add, pn_mul, pn_subc, pn_addm, c_le_t, c_le_f, c_lt_t, c_lt_f, c_eq_f, c_eqm, bi_z, bi_1, bi_b, bi_T, bi_F, ite_not, up_eq, up_ne, or_self, or_true, true_or, or_false, false_or, and_true, true_and, and_self, not_true_eq_false, not_false_eq_true, Bool.false_eq_true]
  exact l 9 0 0 (by omega) (by omega)
/-- which of the three -/
def bfN (g : Nat → Nat) : Nat := if g 2 < g (if g 1 < g 0 then 1 else 0) then 2 else if g 1 < g 0 then 1 else 0
theorem xE_bestFeel {h : am_H} {W : Nat → Int32} {N G : Nat} (R : RelS h 3 W N G) (p : Nat → Bool) (d : Nat) : am_cl (d + 4) qE_bestFeel [.ref 3, .int ((bset p 9))] h = some (.inl (some (if cnt p 9 < 2 then -1 else (Int32.ofNat (bfN (gpN W p))))), h) := by
  have ec := (bset_N p (N := 9) (by omega)).2
  have lc := cnt_le (p := p) 9
  have eg := fun (a : Nat) (ha : a ≤ 2) (d : Nat) => xE_greatestPart R p ha d
  have g0 := gpN_le (W := W) (p := p) (a := 0)
  have g1 := gpN_le (W := W) (p := p) (a := 1)
  have g2 := gpN_le (W := W) (p := p) (a := 2)
  by_cases h2 : cnt p 9 < 2
  · rw [if_pos h2]
    simp -implicitDefEqProofs (disch := (first | omega | assumption | exact am_isS_3 | exact am_isS_25 | exact am_isX_356 | exact am_isX_359)) only [uE_bestFeel, ggE_bestFeel_0, ggE_bestFeel_1, ggE_bestFeel_2, ggE_bestFeel_4, ggE_bestFeel_5, ggE_bestFeel_6, ggE_bestFeel_7, ccE_bestFeel_0_1, ccE_bestFeel_4_2, ccE_bestFeel_4_1, rR_bc, ec, am_kI_x, am_kV_x, am_kI_i, am_nI_i, am_kV_i, am_nV_i, ↓reduceIte, eq_self, if_true, if_false, c_in, c_tn, pn_add, pn_mul, pn_subc, pn_addm, c_le_t, c_le_f, c_lt_t, c_lt_f, c_eq_f, c_eqm, bi_z, bi_1, bi_b, bi_T, bi_F, ite_not, up_eq, up_ne, or_self, or_true, true_or, or_false, false_or, and_true, true_and, and_self, not_true_eq_false, not_false_eq_true, Bool.false_eq_true]
  · rw [if_neg h2]
    have e0 := eg 0 (by omega)
    have e1 := eg 1 (by omega)
    have e2 := eg 2 (by omega)
    unfold bfN
    by_cases q1 : gpN W p 1 < gpN W p 0
    · rw [if_pos q1]
      by_cases q2 : gpN W p 2 < gpN W p 1
      · rw [if_pos q2]
        simp -implicitDefEqProofs (disch := (first | omega | assumption | exact am_isS_3 | exact am_isS_25 | exact am_isX_356 | exact am_isX_359)) only [uE_bestFeel, ggE_bestFeel_3, ggE_bestFeel_0, ggE_bestFeel_1, ggE_bestFeel_2, ggE_bestFeel_4, ggE_bestFeel_5, ggE_bestFeel_6, ggE_bestFeel_7, ccE_bestFeel_0_1, ccE_bestFeel_4_2, ccE_bestFeel_4_1, rR_bc, ec, e0, e1, e2, Nat.reduceAdd, am_kI_x, am_kV_x, am_kI_i, am_nI_i, am_kV_i, am_nV_i, ↓reduceIte, eq_self, if_true, if_false, c_in, c_tn, pn_add, pn_mul, pn_subc, pn_addm, c_le_t, c_le_f, c_lt_t, c_lt_f, c_eq_f, c_eqm, bi_z, bi_1, bi_b, bi_T, bi_F, ite_not, up_eq, up_ne, or_self, or_true, true_or, or_false, false_or, and_true, true_and, and_self, not_true_eq_false, not_false_eq_true, Bool.false_eq_true]
      · rw [if_neg q2]
        simp -implicitDefEqProofs (disch := (first | omega | assumption | exact am_isS_3 | exact am_isS_25 | exact am_isX_356 | exact am_isX_359)) only [uE_bestFeel, ggE_bestFeel_3, ggE_bestFeel_0, ggE_bestFeel_1, ggE_bestFeel_2, ggE_bestFeel_4, ggE_bestFeel_5, ggE_bestFeel_6, ggE_bestFeel_7, ccE_bestFeel_0_1, ccE_bestFeel_4_2, ccE_bestFeel_4_1, rR_bc, ec, e0, e1, e2, Nat.reduceAdd, am_kI_x, am_kV_x, am_kI_i, am_nI_i, am_kV_i, am_nV_i, ↓reduceIte, eq_self, if_true, if_false, c_in, c_tn, pn_add, pn_mul, pn_subc, pn_addm, c_le_t, c_le_f, c_lt_t, c_lt_f, c_eq_f, c_eqm, bi_z, bi_1, bi_b, bi_T, bi_F, ite_not, up_eq, up_ne, or_self, or_true, true_or, or_false, false_or, and_true, true_and, and_self, not_true_eq_false, not_false_eq_true, Bool.false_eq_true]
    · rw [if_neg q1]
      by_cases q2 : gpN W p 2 < gpN W p 0
      · rw [if_pos q2]
        simp -implicitDefEqProofs (disch := (first | omega | assumption | exact am_isS_3 | exact am_isS_25 | exact am_isX_356 | exact am_isX_359)) only [uE_bestFeel, ggE_bestFeel_3, ggE_bestFeel_0, ggE_bestFeel_1, ggE_bestFeel_2, ggE_bestFeel_4, ggE_bestFeel_5, ggE_bestFeel_6, ggE_bestFeel_7, ccE_bestFeel_0_1, ccE_bestFeel_4_2, ccE_bestFeel_4_1, rR_bc, ec, e0, e1, e2, Nat.reduceAdd, am_kI_x, am_kV_x, am_kI_i, am_nI_i, am_kV_i, am_nV_i, ↓reduceIte, eq_self, if_true, if_false, c_in, c_tn, pn_add, pn_mul, pn_subc, pn_addm, c_le_t, c_le_f, c_lt_t, c_lt_f, c_eq_f, c_eqm, bi_z, bi_1, bi_b, bi_T, bi_F, ite_not, up_eq, up_ne, or_self, or_true, true_or, or_false, false_or, and_true, true_and, and_self, not_true_eq_false, not_false_eq_true, Bool.false_eq_true]
      · rw [if_neg q2]
        simp -implicitDefEqProofs (disch := (first | omega | assumption | exact am_isS_3 | exact am_isS_25 | exact am_isX_356 | exact am_isX_359)) only [uE_bestFeel, ggE_bestFeel_3, ggE_bestFeel_0, ggE_bestFeel_1, ggE_bestFeel_2, ggE_bestFeel_4, ggE_bestFeel_5, ggE_bestFeel_6, ggE_bestFeel_7, ccE_bestFeel_0_1, ccE_bestFeel_4_2, ccE_bestFeel_4_1, rR_bc, ec, e0, e1, e2, Nat.reduceAdd, am_kI_x, am_kV_x, am_kI_i, am_nI_i, am_kV_i, am_nV_i, ↓reduceIte, eq_self, if_true, if_false, c_in, c_tn, pn_add, pn_mul, pn_subc, pn_addm, c_le_t, c_le_f, c_lt_t, c_lt_f, c_eq_f, c_eqm, bi_z, bi_1, bi_b, bi_T, bi_F, ite_not, up_eq, up_ne, or_self, or_true, true_or, or_false, false_or, and_true, true_and, and_self, not_true_eq_false, not_false_eq_true, Bool.false_eq_true]
theorem rR_ask_12 {h : am_H} (p : Nat → Bool) {a t : Nat} (ha : a ≤ 2) (ht : t < 9) (x2 x3 : Int32) (m : Nat) (d : Nat) : am_go (am_cl (d + 4)) qR_ask 12 [.ref 373, .int (bset p 9), .int x2, .int x3, .int (Int32.ofNat a), .int (Int32.ofNat m), .int (Int32.ofNat t), .int (Int32.ofNat 0), .int (Int32.ofNat 0)] [] h = am_go (am_cl (d + 4)) qR_ask 19 [.ref 373, .int (bset p 9), .int x2, .int x3, .int (Int32.ofNat a), .int (Int32.ofNat m), .int (Int32.ofNat t), .int (Int32.ofNat (if p t = true then partN (h.2 374) p a t else 0)), .int (Int32.ofNat 9)] [] h := by
  have hbt := has_b p (N := 9) (c := t) (by omega) ht
  have e : (if p t = true then partN (h.2 374) p a t else 0) = itr (fun s b => b + (if (p t && (p s && decide (felt (h.2 374) a s = felt (h.2 374) a t))) = true then 1 else 0)) 9 0 0 := by
    rw [itr_cnt]
    by_cases hp : p t = true
    · rw [if_pos hp]
      exact cnt_congr (fun s hs => by rw [hp, Bool.true_and])
    · rw [if_neg hp]
      have : ∀ n, cnt (fun s => p t && (p s && decide (felt (h.2 374) a s = felt (h.2 374) a t))) n = 0 := by
        intro n
        induction n with
        | zero => rfl
        | succ n ih =>
          show cnt _ n + _ = 0
          rw [ih, Bool.eq_false_iff.mpr hp]
          simp
      exact (this 9).symm
  rw [e]
  refine lp (N := 9) (L := fun c (b : Nat) => [.ref 373, .int (bset p 9), .int x2, .int x3, .int (Int32.ofNat a), .int (Int32.ofNat m), .int (Int32.ofNat t), .int (Int32.ofNat b), .int (Int32.ofNat c)]) (H := fun _ => h) (R := fun b => am_go (am_cl (d + 4)) qR_ask 19 [.ref 373, .int (bset p 9), .int x2, .int x3, .int (Int32.ofNat a), .int (Int32.ofNat m), .int (Int32.ofNat t), .int (Int32.ofNat b), .int (Int32.ofNat 9)] [] h) (fun s b => b + (if (p t && (p s && decide (felt (h.2 374) a s = felt (h.2 374) a t))) = true then 1 else 0)) (fun c b hc => ?_) (fun b => ?_) 9 0 0 (by omega)
  · rw [ggR_ask_12]
    have hbc := has_b p (N := 9) (c := c) (by omega) hc
    by_cases hp : p t = true
    · by_cases hpc : p c = true
      · by_cases hq : felt (h.2 374) a c = felt (h.2 374) a t
        · have hx : (p t && (p c && decide (felt (h.2 374) a c = felt (h.2 374) a t))) = true := by rw [hp, hpc, decide_eq_true hq]; rfl
          rw [if_pos hx]
          simp -implicitDefEqProofs (disch := (first | omega | assumption | exact am_isS_3 | exact am_isS_25 | exact am_isX_356 | exact am_isX_359)) only [ggR_ask_0, ggR_ask_1, ggR_ask_2, ggR_ask_3, ggR_ask_4, ggR_ask_5, ggR_ask_6, ggR_ask_7, ggR_ask_9, ggR_ask_11, ggR_ask_13, ggR_ask_14, ggR_ask_15, ggR_ask_16, ggR_ask_17, ggR_ask_18, ggR_ask_20, ggR_ask_21, ggR_ask_22, ggR_ask_23, ggR_ask_24, ccR_ask_0_2, ccR_ask_0_1, ccR_ask_3_1, ccR_ask_5_2, ccR_ask_5_1, ccR_ask_13_1, ccR_ask_14_1, ccR_ask_15_2, ccR_ask_15_1, rR_has, hbt, hbc, hp, hpc, rR_feltOf, hq, am_kI_x, am_kV_x, am_kI_i, am_nI_i, am_kV_i, am_nV_i, ↓reduceIte, eq_self, if_true, if_false, c_in, c_tn, pn_add, pn_mul, pn_subc, pn_addm, c_le_t, c_le_f, c_lt_t, c_lt_f, c_eq_f, c_eqm, bi_z, bi_1, bi_b, bi_T, bi_F, ite_not, up_eq, up_ne, or_self, or_true, true_or, or_false, false_or, and_true, true_and, and_self, not_true_eq_false, not_false_eq_true, Bool.false_eq_true]
        · have hx : ¬ (p t && (p c && decide (felt (h.2 374) a c = felt (h.2 374) a t))) = true := by rw [decide_eq_false hq, Bool.and_false, Bool.and_false]; decide
          have hq2 : ¬ felt (h.2 374) a t = felt (h.2 374) a c := fun z => hq z.symm
          rw [if_neg hx, Nat.add_zero]
          simp -implicitDefEqProofs (disch := (first | omega | assumption | exact am_isS_3 | exact am_isS_25 | exact am_isX_356 | exact am_isX_359)) only [ggR_ask_0, ggR_ask_1, ggR_ask_2, ggR_ask_3, ggR_ask_4, ggR_ask_5, ggR_ask_6, ggR_ask_7, ggR_ask_9, ggR_ask_11, ggR_ask_13, ggR_ask_14, ggR_ask_15, ggR_ask_16, ggR_ask_17, ggR_ask_18, ggR_ask_20, ggR_ask_21, ggR_ask_22, ggR_ask_23, ggR_ask_24, ccR_ask_0_2, ccR_ask_0_1, ccR_ask_3_1, ccR_ask_5_2, ccR_ask_5_1, ccR_ask_13_1, ccR_ask_14_1, ccR_ask_15_2, ccR_ask_15_1, rR_has, hbt, hbc, hp, hpc, rR_feltOf, hq2, am_kI_x, am_kV_x, am_kI_i, am_nI_i, am_kV_i, am_nV_i, ↓reduceIte, eq_self, if_true, if_false, c_in, c_tn, pn_add, pn_mul, pn_subc, pn_addm, c_le_t, c_le_f, c_lt_t, c_lt_f, c_eq_f, c_eqm, bi_z, bi_1, bi_b, bi_T, bi_F, ite_not, up_eq, up_ne, or_self, or_true, true_or, or_false, false_or, and_true, true_and, and_self, not_true_eq_false, not_false_eq_true, Bool.false_eq_true]
      · have hx : ¬ (p t && (p c && decide (felt (h.2 374) a c = felt (h.2 374) a t))) = true := by rw [Bool.eq_false_iff.mpr hpc, Bool.false_and, Bool.and_false]; decide
        rw [if_neg hx, Nat.add_zero]
        simp -implicitDefEqProofs (disch := (first | omega | assumption | exact am_isS_3 | exact am_isS_25 | exact am_isX_356 | exact am_isX_359)) only [ggR_ask_0, ggR_ask_1, ggR_ask_2, ggR_ask_3, ggR_ask_4, ggR_ask_5, ggR_ask_6, ggR_ask_7, ggR_ask_9, ggR_ask_11, ggR_ask_13, ggR_ask_14, ggR_ask_15, ggR_ask_16, ggR_ask_17, ggR_ask_18, ggR_ask_20, ggR_ask_21, ggR_ask_22, ggR_ask_23, ggR_ask_24, ccR_ask_0_2, ccR_ask_0_1, ccR_ask_3_1, ccR_ask_5_2, ccR_ask_5_1, ccR_ask_13_1, ccR_ask_14_1, ccR_ask_15_2, ccR_ask_15_1, rR_has, hbt, hbc, hp, hpc, am_kI_x, am_kV_x, am_kI_i, am_nI_i, am_kV_i, am_nV_i, ↓reduceIte, eq_self, if_true, if_false, c_in, c_tn, pn_add, pn_mul, pn_subc, pn_addm, c_le_t, c_le_f, c_lt_t, c_lt_f, c_eq_f, c_eqm, bi_z, bi_1, bi_b, bi_T, bi_F, ite_not, up_eq, up_ne, or_self, or_true, true_or, or_false, false_or, and_true, true_and, and_self, not_true_eq_false, not_false_eq_true, Bool.false_eq_true]
    · have hx : ¬ (p t && (p c && decide (felt (h.2 374) a c = felt (h.2 374) a t))) = true := by rw [Bool.eq_false_iff.mpr hp, Bool.false_and]; decide
      rw [if_neg hx, Nat.add_zero]
      simp -implicitDefEqProofs (disch := (first | omega | assumption | exact am_isS_3 | exact am_isS_25 | exact am_isX_356 | exact am_isX_359)) only [ggR_ask_0, ggR_ask_1, ggR_ask_2, ggR_ask_3, ggR_ask_4, ggR_ask_5, ggR_ask_6, ggR_ask_7, ggR_ask_9, ggR_ask_11, ggR_ask_13, ggR_ask_14, ggR_ask_15, ggR_ask_16, ggR_ask_17, ggR_ask_18, ggR_ask_20, ggR_ask_21, ggR_ask_22, ggR_ask_23, ggR_ask_24, ccR_ask_0_2, ccR_ask_0_1, ccR_ask_3_1, ccR_ask_5_2, ccR_ask_5_1, ccR_ask_13_1, ccR_ask_14_1, ccR_ask_15_2, ccR_ask_15_1, rR_has, hbt, hp, am_kI_x, am_kV_x, am_kI_i, am_nI_i, am_kV_i, am_nV_i, ↓reduceIte, eq_self, if_true, if_false, c_in, c_tn, pn_add, pn_mul, pn_subc, pn_addm, c_le_t, c_le_f, c_lt_t, c_lt_f, c_eq_f, c_eqm, bi_z, bi_1, bi_b, bi_T, bi_F, ite_not, up_eq, up_ne, or_self, or_true, true_or, or_false, false_or, and_true, true_and, and_self, not_true_eq_false, not_false_eq_true, Bool.false_eq_true]
  · rw [ggR_ask_12]
    simp -implicitDefEqProofs (disch := (first | omega | assumption | exact am_isS_3 | exact am_isS_25 | exact am_isX_356 | exact am_isX_359)) only [ggR_ask_0, ggR_ask_1, ggR_ask_2, ggR_ask_3, ggR_ask_4, ggR_ask_5, ggR_ask_6, ggR_ask_7, ggR_ask_9, ggR_ask_11, ggR_ask_13, ggR_ask_14, ggR_ask_15, ggR_ask_16, ggR_ask_17, ggR_ask_18, ggR_ask_20, ggR_ask_21, ggR_ask_22, ggR_ask_23, ggR_ask_24, ccR_ask_0_2, ccR_ask_0_1, ccR_ask_3_1, ccR_ask_5_2, ccR_ask_5_1, ccR_ask_13_1, ccR_ask_14_1, ccR_ask_15_2, ccR_ask_15_1, am_kI_x, am_kV_x, am_kI_i, am_nI_i, am_kV_i, am_nV_i, ↓reduceIte, eq_self, if_true, if_false, c_in, c_tn, pn_add, pn_mul, pn_subc, pn_addm, c_le_t, c_le_f, c_lt_t, c_lt_f, c_eq_f, c_eqm, bi_z, bi_1, bi_b, bi_T, bi_F, ite_not, up_eq, up_ne, or_self, or_true, true_or, or_false, false_or, and_true, true_and, and_self, not_true_eq_false, not_false_eq_true, Bool.false_eq_true]
theorem rR_ask_10 {h : am_H} (p : Nat → Bool) {a : Nat} (ha : a ≤ 2) (x2 x3 : Int32) (d : Nat) : ∀ k c (b : Nat) (v7 v8 : Value), b ≤ 9 → c + k = 9 → ∃ w7 w8 : Value, am_go (am_cl (d + 4)) qR_ask 10 [.ref 373, .int (bset p 9), .int x2, .int x3, .int (Int32.ofNat a), .int (Int32.ofNat b), .int (Int32.ofNat c), v7, v8] [] h = am_go (am_cl (d + 4)) qR_ask 20 [.ref 373, .int (bset p 9), .int x2, .int x3, .int (Int32.ofNat a), .int (Int32.ofNat (itr (fun t m => max m (if p t = true then partN (h.2 374) p a t else 0)) k c b)), .int (Int32.ofNat 9), w7, w8] [] h := by
  intro k
  induction k with
  | zero =>
    intro c b v7 v8 hb hc
    have hc : c = 9 := by omega
    subst hc
    refine ⟨v7, v8, ?_⟩
    rw [ggR_ask_10]
    simp -implicitDefEqProofs (disch := (first | omega | assumption | exact am_isS_3 | exact am_isS_25 | exact am_isX_356 | exact am_isX_359)) only [ggR_ask_0, ggR_ask_1, ggR_ask_2, ggR_ask_3, ggR_ask_4, ggR_ask_5, ggR_ask_6, ggR_ask_7, ggR_ask_9, ggR_ask_11, ggR_ask_13, ggR_ask_14, ggR_ask_15, ggR_ask_16, ggR_ask_17, ggR_ask_18, ggR_ask_19, ggR_ask_21, ggR_ask_22, ggR_ask_23, ggR_ask_24, ccR_ask_0_2, ccR_ask_0_1, ccR_ask_3_1, ccR_ask_5_2, ccR_ask_5_1, ccR_ask_13_1, ccR_ask_14_1, ccR_ask_15_2, ccR_ask_15_1, itr, am_kI_x, am_kV_x, am_kI_i, am_nI_i, am_kV_i, am_nV_i, ↓reduceIte, eq_self, if_true, if_false, c_in, c_tn, pn_add, pn_mul, pn_subc, pn_addm, c_le_t, c_le_f, c_lt_t, c_lt_f, c_eq_f, c_eqm, bi_z, bi_1, bi_b, bi_T, bi_F, ite_not, up_eq, up_ne, or_self, or_true, true_or, or_false, false_or, and_true, true_and, and_self, not_true_eq_false, not_false_eq_true, Bool.false_eq_true]
  | succ k ih =>
    intro c b v7 v8 hb hc
    have le := partN_le (W := h.2 374) (p := p) (a := a) (t := c)
    have hl : (if p c = true then partN (h.2 374) p a c else 0) ≤ 9 := by split <;> omega
    obtain ⟨w7, w8, ih⟩ := ih (c + 1) (max b (if p c = true then partN (h.2 374) p a c else 0)) (.int (Int32.ofNat (if p c = true then partN (h.2 374) p a c else 0))) (.int (Int32.ofNat 9)) (by omega) (by omega)
    refine ⟨w7, w8, ?_⟩
    show _ = am_go _ _ _ [_, _, _, _, _, .int (Int32.ofNat (itr _ k (c + 1) (max b (if p c = true then partN (h.2 374) p a c else 0)))), _, _, _] [] _
    rw [← ih, ggR_ask_10]
    have l := fun m => rR_ask_12 (h := h) p ha (t := c) (by omega) x2 x3 m d
    generalize (if p c = true then partN (h.2 374) p a c else 0) = z at l hl
    simp -implicitDefEqProofs (disch := (first | omega | assumption | exact am_isS_3 | exact am_isS_25 | exact am_isX_356 | exact am_isX_359)) only [ggR_ask_0, ggR_ask_1, ggR_ask_2, ggR_ask_3, ggR_ask_4, ggR_ask_5, ggR_ask_6, ggR_ask_7, ggR_ask_9, ggR_ask_11, ggR_ask_13, ggR_ask_14, ggR_ask_15, ggR_ask_16, ggR_ask_17, ggR_ask_18, ggR_ask_19, ggR_ask_20, ggR_ask_21, ggR_ask_22, ggR_ask_23, ggR_ask_24, ccR_ask_0_2, ccR_ask_0_1, ccR_ask_3_1, ccR_ask_5_2, ccR_ask_5_1, ccR_ask_13_1, ccR_ask_14_1, ccR_ask_15_2, ccR_ask_15_1, l, pn_max, am_kI_x, am_kV_x, am_kI_i, am_nI_i, am_kV_i, am_nV_i, ↓reduceIte, eq_self, if_true, if_false, c_in, c_tn, pn_add, pn_mul, pn_subc, pn_addm, c_le_t, c_le_f, c_lt_t, c_lt_f, c_eq_f, c_eqm, bi_z, bi_1, bi_b, bi_T, bi_F, ite_not, up_eq, up_ne, or_self, or_true, true_or, or_false, false_or, and_true, true_and, and_self, not_true_eq_false, not_false_eq_true, Bool.false_eq_true]
theorem rR_ask_l {h : am_H} (p : Nat → Bool) (d : Nat) (v5 v6 v7 v8 : Value) : am_go (am_cl (d + 4)) qR_ask 8 [.ref 373, .int (bset p 9), .int (-1), .int (Int32.ofNat 1000000), .int (Int32.ofNat 0), v5, v6, v7, v8] [] h = some (.inl (some ((Int32.ofNat (bfN (gpN (h.2 374) p))))), h) := by
  have g0 := gpN_le (W := h.2 374) (p := p) (a := 0)
  have g1 := gpN_le (W := h.2 374) (p := p) (a := 1)
  have g2 := gpN_le (W := h.2 374) (p := p) (a := 2)
  have st : ∀ (a : Nat) (b : Int32) (l : Nat) (v5 v6 v7 v8 : Value), a ≤ 2 → l ≤ 1000000 → ∃ w5 w6 w7 w8 : Value, am_go (am_cl (d + 4)) qR_ask 8 [.ref 373, .int (bset p 9), .int b, .int (Int32.ofNat l), .int (Int32.ofNat a), v5, v6, v7, v8] [] h = am_go (am_cl (d + 4)) qR_ask 8 [.ref 373, .int (bset p 9), .int (if gpN (h.2 374) p a < l then (Int32.ofNat a) else b), .int (Int32.ofNat (min l (gpN (h.2 374) p a))), .int (Int32.ofNat (a + 1)), w5, w6, w7, w8] [] h := by
    intro a b l v5 v6 v7 v8 ha hl
    have ga := gpN_le (W := h.2 374) (p := p) (a := a)
    obtain ⟨w7, w8, e⟩ := rR_ask_10 (h := h) p ha b (Int32.ofNat l) d 9 0 0 v7 v8 (by omega) (by omega)
    refine ⟨.int (Int32.ofNat (gpN (h.2 374) p a)), .int (Int32.ofNat 9), w7, w8, ?_⟩
    rw [ggR_ask_8]
    by_cases hq : gpN (h.2 374) p a < l
    · rw [if_pos hq]
      simp -implicitDefEqProofs (disch := (first | omega | assumption | exact am_isS_3 | exact am_isS_25 | exact am_isX_356 | exact am_isX_359)) only [ggR_ask_0, ggR_ask_1, ggR_ask_2, ggR_ask_3, ggR_ask_4, ggR_ask_5, ggR_ask_6, ggR_ask_7, ggR_ask_9, ggR_ask_11, ggR_ask_13, ggR_ask_14, ggR_ask_15, ggR_ask_16, ggR_ask_17, ggR_ask_18, ggR_ask_19, ggR_ask_20, ggR_ask_21, ggR_ask_22, ggR_ask_23, ggR_ask_24, ccR_ask_0_2, ccR_ask_0_1, ccR_ask_3_1, ccR_ask_5_2, ccR_ask_5_1, ccR_ask_13_1, ccR_ask_14_1, ccR_ask_15_2, ccR_ask_15_1, am_kI_x, am_kV_x, am_kI_i, am_nI_i, am_kV_i, am_nV_i, ↓reduceIte, eq_self, if_true, if_false, c_in, c_tn, pn_add, pn_mul, pn_subc, pn_addm, c_le_t, c_le_f, c_lt_t, c_lt_f, c_eq_f, c_eqm, bi_z, bi_1, bi_b, bi_T, bi_F, ite_not, up_eq, up_ne, or_self, or_true, true_or, or_false, false_or, and_true, true_and, and_self, not_true_eq_false, not_false_eq_true, Bool.false_eq_true]
      refine e.trans ?_
      show am_go _ _ _ [_, _, _, _, _, .int (Int32.ofNat (gpN (h.2 374) p a)), _, _, _] [] _ = _
      simp -implicitDefEqProofs (disch := (first | omega | assumption | exact am_isS_3 | exact am_isS_25 | exact am_isX_356 | exact am_isX_359)) only [ggR_ask_0, ggR_ask_1, ggR_ask_2, ggR_ask_3, ggR_ask_4, ggR_ask_5, ggR_ask_6, ggR_ask_7, ggR_ask_9, ggR_ask_11, ggR_ask_13, ggR_ask_14, ggR_ask_15, ggR_ask_16, ggR_ask_17, ggR_ask_18, ggR_ask_19, ggR_ask_20, ggR_ask_21, ggR_ask_22, ggR_ask_23, ggR_ask_24, ccR_ask_0_2, ccR_ask_0_1, ccR_ask_3_1, ccR_ask_5_2, ccR_ask_5_1, ccR_ask_13_1, ccR_ask_14_1, ccR_ask_15_2, ccR_ask_15_1, pn_min, am_kI_x, am_kV_x, am_kI_i, am_nI_i, am_kV_i, am_nV_i, ↓reduceIte, eq_self, if_true, if_false, c_in, c_tn, pn_add, pn_mul, pn_subc, pn_addm, c_le_t, c_le_f, c_lt_t, c_lt_f, c_eq_f, c_eqm, bi_z, bi_1, bi_b, bi_T, bi_F, ite_not, up_eq, up_ne, or_self, or_true, true_or, or_false, false_or, and_true, true_and, and_self, not_true_eq_false, not_false_eq_true, Bool.false_eq_true]
    · rw [if_neg hq]
      simp -implicitDefEqProofs (disch := (first | omega | assumption | exact am_isS_3 | exact am_isS_25 | exact am_isX_356 | exact am_isX_359)) only [ggR_ask_0, ggR_ask_1, ggR_ask_2, ggR_ask_3, ggR_ask_4, ggR_ask_5, ggR_ask_6, ggR_ask_7, ggR_ask_9, ggR_ask_11, ggR_ask_13, ggR_ask_14, ggR_ask_15, ggR_ask_16, ggR_ask_17, ggR_ask_18, ggR_ask_19, ggR_ask_20, ggR_ask_21, ggR_ask_22, ggR_ask_23, ggR_ask_24, ccR_ask_0_2, ccR_ask_0_1, ccR_ask_3_1, ccR_ask_5_2, ccR_ask_5_1, ccR_ask_13_1, ccR_ask_14_1, ccR_ask_15_2, ccR_ask_15_1, am_kI_x, am_kV_x, am_kI_i, am_nI_i, am_kV_i, am_nV_i, ↓reduceIte, eq_self, if_true, if_false, c_in, c_tn, pn_add, pn_mul, pn_subc, pn_addm, c_le_t, c_le_f, c_lt_t, c_lt_f, c_eq_f, c_eqm, bi_z, bi_1, bi_b, bi_T, bi_F, ite_not, up_eq, up_ne, or_self, or_true, true_or, or_false, false_or, and_true, true_and, and_self, not_true_eq_false, not_false_eq_true, Bool.false_eq_true]
      refine e.trans ?_
      show am_go _ _ _ [_, _, _, _, _, .int (Int32.ofNat (gpN (h.2 374) p a)), _, _, _] [] _ = _
      simp -implicitDefEqProofs (disch := (first | omega | assumption | exact am_isS_3 | exact am_isS_25 | exact am_isX_356 | exact am_isX_359)) only [ggR_ask_0, ggR_ask_1, ggR_ask_2, ggR_ask_3, ggR_ask_4, ggR_ask_5, ggR_ask_6, ggR_ask_7, ggR_ask_9, ggR_ask_11, ggR_ask_13, ggR_ask_14, ggR_ask_15, ggR_ask_16, ggR_ask_17, ggR_ask_18, ggR_ask_19, ggR_ask_20, ggR_ask_21, ggR_ask_22, ggR_ask_23, ggR_ask_24, ccR_ask_0_2, ccR_ask_0_1, ccR_ask_3_1, ccR_ask_5_2, ccR_ask_5_1, ccR_ask_13_1, ccR_ask_14_1, ccR_ask_15_2, ccR_ask_15_1, pn_min, am_kI_x, am_kV_x, am_kI_i, am_nI_i, am_kV_i, am_nV_i, ↓reduceIte, eq_self, if_true, if_false, c_in, c_tn, pn_add, pn_mul, pn_subc, pn_addm, c_le_t, c_le_f, c_lt_t, c_lt_f, c_eq_f, c_eqm, bi_z, bi_1, bi_b, bi_T, bi_F, ite_not, up_eq, up_ne, or_self, or_true, true_or, or_false, false_or, and_true, true_and, and_self, not_true_eq_false, not_false_eq_true, Bool.false_eq_true]
  obtain ⟨a5, a6, a7, a8, s0⟩ := st 0 (-1) 1000000 v5 v6 v7 v8 (by omega) (by omega)
  rw [if_pos (by omega), Nat.min_eq_right (by omega)] at s0
  obtain ⟨b5, b6, b7, b8, s1⟩ := st 1 (Int32.ofNat 0) (gpN (h.2 374) p 0) a5 a6 a7 a8 (by omega) (by omega)
  obtain ⟨c5, c6, c7, c8, s2⟩ := st 2 (if gpN (h.2 374) p 1 < gpN (h.2 374) p 0 then (Int32.ofNat 1) else (Int32.ofNat 0)) (min (gpN (h.2 374) p 0) (gpN (h.2 374) p 1)) b5 b6 b7 b8 (by omega) (by omega)
  rw [s0]
  refine s1.trans (s2.trans ?_)
  rw [ggR_ask_8]
  unfold bfN
  by_cases q1 : gpN (h.2 374) p 1 < gpN (h.2 374) p 0
  · rw [if_pos q1, if_pos q1, Nat.min_eq_right (by omega)]
    by_cases q2 : gpN (h.2 374) p 2 < gpN (h.2 374) p 1
    · rw [if_pos q2, if_pos q2]
      simp -implicitDefEqProofs (disch := (first | omega | assumption | exact am_isS_3 | exact am_isS_25 | exact am_isX_356 | exact am_isX_359)) only [ggR_ask_0, ggR_ask_1, ggR_ask_2, ggR_ask_3, ggR_ask_4, ggR_ask_5, ggR_ask_6, ggR_ask_7, ggR_ask_9, ggR_ask_11, ggR_ask_13, ggR_ask_14, ggR_ask_15, ggR_ask_16, ggR_ask_17, ggR_ask_18, ggR_ask_19, ggR_ask_20, ggR_ask_21, ggR_ask_22, ggR_ask_23, ggR_ask_24, ccR_ask_0_2, ccR_ask_0_1, ccR_ask_3_1, ccR_ask_5_2, ccR_ask_5_1, ccR_ask_13_1, ccR_ask_14_1, ccR_ask_15_2, ccR_ask_15_1, am_kI_x, am_kV_x, am_kI_i, am_nI_i, am_kV_i, am_nV_i, ↓reduceIte, eq_self, if_true, if_false, c_in, c_tn, pn_add, pn_mul, pn_subc, pn_addm, c_le_t, c_le_f, c_lt_t, c_lt_f, c_eq_f, c_eqm, bi_z, bi_1, bi_b, bi_T, bi_F, ite_not, up_eq, up_ne, or_self, or_true, true_or, or_false, false_or, and_true, true_and, and_self, not_true_eq_false, not_false_eq_true, Bool.false_eq_true]
    · rw [if_neg q2, if_neg q2]
      simp -implicitDefEqProofs (disch := (first | omega | assumption | exact am_isS_3 | exact am_isS_25 | exact am_isX_356 | exact am_isX_359)) only [ggR_ask_0, ggR_ask_1, ggR_ask_2, ggR_ask_3, ggR_ask_4, ggR_ask_5, ggR_ask_6, ggR_ask_7, ggR_ask_9, ggR_ask_11, ggR_ask_13, ggR_ask_14, ggR_ask_15, ggR_ask_16, ggR_ask_17, ggR_ask_18, ggR_ask_19, ggR_ask_20, ggR_ask_21, ggR_ask_22, ggR_ask_23, ggR_ask_24, ccR_ask_0_2, ccR_ask_0_1, ccR_ask_3_1, ccR_ask_5_2, ccR_ask_5_1, ccR_ask_13_1, ccR_ask_14_1, ccR_ask_15_2, ccR_ask_15_1, am_kI_x, am_kV_x, am_kI_i, am_nI_i, am_kV_i, am_nV_i, ↓reduceIte, eq_self, if_true, if_false, c_in, c_tn, pn_add, pn_mul, pn_subc, pn_addm, c_le_t, c_le_f, c_lt_t, c_lt_f, c_eq_f, c_eqm, bi_z, bi_1, bi_b, bi_T, bi_F, ite_not, up_eq, up_ne, or_self, or_true, true_or, or_false, false_or, and_true, true_and, and_self, not_true_eq_false, not_false_eq_true, Bool.false_eq_true]
  · rw [if_neg q1, if_neg q1, Nat.min_eq_left (by omega)]
    by_cases q2 : gpN (h.2 374) p 2 < gpN (h.2 374) p 0
    · rw [if_pos q2, if_pos q2]
      simp -implicitDefEqProofs (disch := (first | omega | assumption | exact am_isS_3 | exact am_isS_25 | exact am_isX_356 | exact am_isX_359)) only [ggR_ask_0, ggR_ask_1, ggR_ask_2, ggR_ask_3, ggR_ask_4, ggR_ask_5, ggR_ask_6, ggR_ask_7, ggR_ask_9, ggR_ask_11, ggR_ask_13, ggR_ask_14, ggR_ask_15, ggR_ask_16, ggR_ask_17, ggR_ask_18, ggR_ask_19, ggR_ask_20, ggR_ask_21, ggR_ask_22, ggR_ask_23, ggR_ask_24, ccR_ask_0_2, ccR_ask_0_1, ccR_ask_3_1, ccR_ask_5_2, ccR_ask_5_1, ccR_ask_13_1, ccR_ask_14_1, ccR_ask_15_2, ccR_ask_15_1, am_kI_x, am_kV_x, am_kI_i, am_nI_i, am_kV_i, am_nV_i, ↓reduceIte, eq_self, if_true, if_false, c_in, c_tn, pn_add, pn_mul, pn_subc, pn_addm, c_le_t, c_le_f, c_lt_t, c_lt_f, c_eq_f, c_eqm, bi_z, bi_1, bi_b, bi_T, bi_F, ite_not, up_eq, up_ne, or_self, or_true, true_or, or_false, false_or, and_true, true_and, and_self, not_true_eq_false, not_false_eq_true, Bool.false_eq_true]
    · rw [if_neg q2, if_neg q2]
      simp -implicitDefEqProofs (disch := (first | omega | assumption | exact am_isS_3 | exact am_isS_25 | exact am_isX_356 | exact am_isX_359)) only [ggR_ask_0, ggR_ask_1, ggR_ask_2, ggR_ask_3, ggR_ask_4, ggR_ask_5, ggR_ask_6, ggR_ask_7, ggR_ask_9, ggR_ask_11, ggR_ask_13, ggR_ask_14, ggR_ask_15, ggR_ask_16, ggR_ask_17, ggR_ask_18, ggR_ask_19, ggR_ask_20, ggR_ask_21, ggR_ask_22, ggR_ask_23, ggR_ask_24, ccR_ask_0_2, ccR_ask_0_1, ccR_ask_3_1, ccR_ask_5_2, ccR_ask_5_1, ccR_ask_13_1, ccR_ask_14_1, ccR_ask_15_2, ccR_ask_15_1, am_kI_x, am_kV_x, am_kI_i, am_nI_i, am_kV_i, am_nV_i, ↓reduceIte, eq_self, if_true, if_false, c_in, c_tn, pn_add, pn_mul, pn_subc, pn_addm, c_le_t, c_le_f, c_lt_t, c_lt_f, c_eq_f, c_eqm, bi_z, bi_1, bi_b, bi_T, bi_F, ite_not, up_eq, up_ne, or_self, or_true, true_or, or_false, false_or, and_true, true_and, and_self, not_true_eq_false, not_false_eq_true, Bool.false_eq_true]
theorem T_ask : Two qF_ask [.ref 0] qR_ask [.ref 373] (am_ctt 17) := by
  intro d hC hR J
  obtain ⟨⟨N, G, R, okt, okc, okk, RL⟩, T, -⟩ := id J
  obtain ⟨n, B, hn, e1, e2, hB⟩ := bts_of T
  have hBC : ∀ i, i < 400 → B i < 256 ∧ hC.2 2 i = (Int32.ofNat (B i)) := fun i hi => ⟨(hB i hi).1, (hB i hi).2.1⟩
  have e374 : (usedR hR n).2 374 = hR.2 374 := usedR_o (by omega)
  have ef := fun d => rR_isFelt (h := usedR hR n) hn usedR_11 (B := B) (fun i hi => ⟨(hB i hi).1, by rw [usedR_o (by omega)]; exact (hB i hi).2.2⟩) d
  have eu := fun d => rR_uses e2 d
  by_cases ok : rowsOK B n 2 10 = true
  · rw [bi_t ok] at ef
    have en := fun d => xF_needFeels hn e1 hBC ok d
    have tt := told_of hB ok
    have RC := R.used (m := n / 2)
    have ffC := fun d => xE_fitting RC tt d
    have ffR := fun d => rR_fitting tt d
    rw [e374] at ffR
    have bC := fun d => xE_bestFeel RC (fitT (hR.2 374) B (n / 2)) d
    have bR := fun d => rR_ask_l (h := usedR hR n) (fitT (hR.2 374) B (n / 2)) d .null .null .null .null
    rw [e374] at bR
    generalize fitT (hR.2 374) B (n / 2) = p at ffC ffR bC bR
    have ec := (bset_N p (N := 9) (by omega)).2
    have lc := cnt_le (p := p) 9
    refine ⟨_, _, J.used (n / 2) n, rfl, Or.inl ⟨if cnt p 9 < 2 then -1 else (Int32.ofNat (bfN (gpN (hR.2 374) p))), rfl, usedR_0, ?_, ?_⟩⟩
    · simp -implicitDefEqProofs (disch := (first | omega | assumption | exact am_isS_3 | exact am_isS_25 | exact am_isX_356 | exact am_isX_359)) only [uF_ask, ggF_ask_0, ccF_ask_0_3, ccF_ask_0_2, ccF_ask_0_1, en, ffC, bC, am_kI_x, am_kV_x, am_kI_i, am_nI_i, am_kV_i, am_nV_i, ↓reduceIte, eq_self, if_true, if_false, c_in, c_tn, pn_add, pn_mul, pn_subc, pn_addm, c_le_t, c_le_f, c_lt_t, c_lt_f, c_eq_f, c_eqm, bi_z, bi_1, bi_b, bi_T, bi_F, ite_not, up_eq, up_ne, or_self, or_true, true_or, or_false, false_or, and_true, true_and, and_self, not_true_eq_false, not_false_eq_true, Bool.false_eq_true]
    · by_cases h2 : cnt p 9 < 2
      · rw [if_pos h2]
        simp -implicitDefEqProofs (disch := (first | omega | assumption | exact am_isS_3 | exact am_isS_25 | exact am_isX_356 | exact am_isX_359)) only [uR_ask, ggR_ask_0, ggR_ask_1, ggR_ask_2, ggR_ask_3, ggR_ask_4, ggR_ask_5, ggR_ask_6, ggR_ask_7, ggR_ask_9, ggR_ask_11, ggR_ask_13, ggR_ask_14, ggR_ask_15, ggR_ask_16, ggR_ask_17, ggR_ask_18, ggR_ask_19, ggR_ask_20, ggR_ask_21, ggR_ask_22, ggR_ask_23, ggR_ask_24, ccR_ask_0_2, ccR_ask_0_1, ccR_ask_3_1, ccR_ask_5_2, ccR_ask_5_1, ccR_ask_13_1, ccR_ask_14_1, ccR_ask_15_2, ccR_ask_15_1, eu, ef, rR_throwsIf_f, k_373, ffR, rR_bc, ec, am_kI_x, am_kV_x, am_kI_i, am_nI_i, am_kV_i, am_nV_i, ↓reduceIte, eq_self, if_true, if_false, c_in, c_tn, pn_add, pn_mul, pn_subc, pn_addm, c_le_t, c_le_f, c_lt_t, c_lt_f, c_eq_f, c_eqm, bi_z, bi_1, bi_b, bi_T, bi_F, ite_not, up_eq, up_ne, or_self, or_true, true_or, or_false, false_or, and_true, true_and, and_self, not_true_eq_false, not_false_eq_true, Bool.false_eq_true]
      · rw [if_neg h2]
        simp -implicitDefEqProofs (disch := (first | omega | assumption | exact am_isS_3 | exact am_isS_25 | exact am_isX_356 | exact am_isX_359)) only [uR_ask, ggR_ask_0, ggR_ask_1, ggR_ask_2, ggR_ask_3, ggR_ask_4, ggR_ask_5, ggR_ask_6, ggR_ask_7, ggR_ask_9, ggR_ask_11, ggR_ask_13, ggR_ask_14, ggR_ask_15, ggR_ask_16, ggR_ask_17, ggR_ask_18, ggR_ask_19, ggR_ask_20, ggR_ask_21, ggR_ask_22, ggR_ask_23, ggR_ask_24, ccR_ask_0_2, ccR_ask_0_1, ccR_ask_3_1, ccR_ask_5_2, ccR_ask_5_1, ccR_ask_13_1, ccR_ask_14_1, ccR_ask_15_2, ccR_ask_15_1, eu, ef, rR_throwsIf_f, k_373, ffR, rR_bc, ec, am_kI_x, am_kV_x, am_kI_i, am_nI_i, am_kV_i, am_nV_i, ↓reduceIte, eq_self, if_true, if_false, c_in, c_tn, pn_add, pn_mul, pn_subc, pn_addm, c_le_t, c_le_f, c_lt_t, c_lt_f, c_eq_f, c_eqm, bi_z, bi_1, bi_b, bi_T, bi_F, ite_not, up_eq, up_ne, or_self, or_true, true_or, or_false, false_or, and_true, true_and, and_self, not_true_eq_false, not_false_eq_true, Bool.false_eq_true]
        exact bR (d + 115)
  · rw [bi_f ok] at ef
    have en := fun d => xF_needFeels_x hn e1 hBC ok d
    refine ⟨am_th (usedC hC 0), am_up (usedR hR n) 373 0 (Int32.ofNat 1), ((J.used 0 n).thr (Int32.ofNat 1)).th, rfl, Or.inr ⟨1, 1, (Int32.ofNat 0), rfl, by decide, up_eq rfl rfl, ?_, ?_⟩⟩
    · simp -implicitDefEqProofs (disch := (first | omega | assumption | exact am_isS_3 | exact am_isS_25 | exact am_isX_356 | exact am_isX_359)) only [uF_ask, ggF_ask_0, ccF_ask_0_3, ccF_ask_0_2, ccF_ask_0_1, en, am_kI_x, am_kV_x, am_kI_i, am_nI_i, am_kV_i, am_nV_i, ↓reduceIte, eq_self, if_true, if_false, c_in, c_tn, pn_add, pn_mul, pn_subc, pn_addm, c_le_t, c_le_f, c_lt_t, c_lt_f, c_eq_f, c_eqm, bi_z, bi_1, bi_b, bi_T, bi_F, ite_not, up_eq, up_ne, or_self, or_true, true_or, or_false, false_or, and_true, true_and, and_self, not_true_eq_false, not_false_eq_true, Bool.false_eq_true]
    · simp -implicitDefEqProofs (disch := (first | omega | assumption | exact am_isS_3 | exact am_isS_25 | exact am_isX_356 | exact am_isX_359)) only [uR_ask, ggR_ask_0, ggR_ask_1, ggR_ask_2, ggR_ask_3, ggR_ask_4, ggR_ask_5, ggR_ask_6, ggR_ask_7, ggR_ask_9, ggR_ask_11, ggR_ask_13, ggR_ask_14, ggR_ask_15, ggR_ask_16, ggR_ask_17, ggR_ask_18, ggR_ask_19, ggR_ask_20, ggR_ask_21, ggR_ask_22, ggR_ask_23, ggR_ask_24, ccR_ask_0_2, ccR_ask_0_1, ccR_ask_3_1, ccR_ask_5_2, ccR_ask_5_1, ccR_ask_13_1, ccR_ask_14_1, ccR_ask_15_2, ccR_ask_15_1, eu, ef, rR_throwsIf_t, k_373, am_kI_x, am_kV_x, am_kI_i, am_nI_i, am_kV_i, am_nV_i, ↓reduceIte, eq_self, if_true, if_false, c_in, c_tn, pn_add, pn_mul, pn_subc, pn_addm, c_le_t, c_le_f, c_lt_t, c_lt_f, c_eq_f, c_eqm, bi_z, bi_1, bi_b, bi_T, bi_F, ite_not, up_eq, up_ne, or_self, or_true, true_or, or_false, false_or, and_true, true_and, and_self, not_true_eq_false, not_false_eq_true, Bool.false_eq_true]
