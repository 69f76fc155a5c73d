/-! more numbers: quotients, masks, shifts, trailing zeros -/
theorem pn_div {a b : Nat} (ha : a < 2147483648) (hb : b < 2147483648) : Int32.ofNat a / Int32.ofNat b = Int32.ofNat (a / b) := by
  apply Int32.toInt_inj.mp
  have hq : a / b < 2147483648 := Nat.lt_of_le_of_lt (Nat.div_le_self a b) ha
  rw [Int32.toInt_div_of_ne_right _ _ (fun q => by have := c_eqm hb; rw [this] at q; exact q), pn_toInt ha, pn_toInt hb, pn_toInt hq]
  exact Int.ofNat_tdiv a b
theorem pn_mod {a b : Nat} (ha : a < 2147483648) (hb : b < 2147483648) : Int32.ofNat a - Int32.ofNat a / Int32.ofNat b * Int32.ofNat b = Int32.ofNat (a % b) := by
  rw [pn_div ha hb, pn_mul, pn_sub (by have := Nat.div_mul_le_self a b; exact this)]
  congr 1
  have h1 := Nat.div_add_mod a b
  rw [Nat.mul_comm] at h1
  omega
theorem of_toNat (x : Int32) : Int32.ofNat x.toBitVec.toNat = x := by
  apply Int32.toBitVec_inj.mp
  show BitVec.ofNat 32 x.toBitVec.toNat = x.toBitVec
  rw [BitVec.ofNat_toNat, BitVec.setWidth_eq]
theorem mask_rg (x : Int32) : rg (x &&& (Int32.ofNat 32767)) 32768 := by
  refine ⟨(x &&& (Int32.ofNat 32767)).toBitVec.toNat, ?_, (of_toNat _).symm⟩
  have : (x &&& (Int32.ofNat 32767)).toBitVec = x.toBitVec &&& BitVec.ofNat 32 32767 := rfl
  rw [this, BitVec.toNat_and]
  have := Nat.and_le_right (n := x.toBitVec.toNat) (m := (BitVec.ofNat 32 32767).toNat)
  have h2 : (BitVec.ofNat 32 32767).toNat = 32767 := rfl
  omega
theorem mask_bit : ∀ i : Fin 32, 15 ≤ i.val → (BitVec.ofNat 32 32767).getLsbD i.val = false := by decide
theorem ush_mask (x : Int32) : am_ush x (Int32.ofNat 16) &&& (Int32.ofNat 32767) = (x >>> ((Int32.ofNat 16) &&& (Int32.ofNat 31))) &&& (Int32.ofNat 32767) := by
  apply Int32.toBitVec_inj.mp
  have e1 : (am_ush x (Int32.ofNat 16) &&& (Int32.ofNat 32767)).toBitVec = (x.toBitVec >>> 16) &&& BitVec.ofNat 32 32767 := rfl
  have e2 : ((x >>> ((Int32.ofNat 16) &&& (Int32.ofNat 31))) &&& (Int32.ofNat 32767)).toBitVec = (x.toBitVec.sshiftRight 16) &&& BitVec.ofNat 32 32767 := rfl
  rw [e1, e2]
  apply BitVec.eq_of_getLsbD_eq
  intro i hi
  rw [BitVec.getLsbD_and, BitVec.getLsbD_and]
  by_cases h15 : i < 15
  · rw [BitVec.getLsbD_ushiftRight, BitVec.getLsbD_sshiftRight]
    rw [decide_eq_false (by omega), if_pos (by omega)]
    rfl
  · rw [mask_bit ⟨i, hi⟩ (by show 15 ≤ i; omega), Bool.and_false, Bool.and_false]
theorem pn_min {a b : Nat} (ha : a < 2147483648) (hb : b < 2147483648) : am_min (Int32.ofNat a) (Int32.ofNat b) = Int32.ofNat (min a b) := by
  unfold am_min
  by_cases h : b < a
  · rw [if_pos ((pn_lt hb ha).mpr h), Nat.min_eq_right (by omega)]
  · rw [if_neg (fun q => h ((pn_lt hb ha).mp q)), Nat.min_eq_left (by omega)]
theorem pn_max {a b : Nat} (ha : a < 2147483648) (hb : b < 2147483648) : am_max (Int32.ofNat a) (Int32.ofNat b) = Int32.ofNat (max a b) := by
  unfold am_max
  by_cases h : a < b
  · rw [if_pos ((pn_lt ha hb).mpr h), Nat.max_eq_right (by omega)]
  · rw [if_neg (fun q => h ((pn_lt ha hb).mp q)), Nat.max_eq_left (by omega)]
def pz4 (x n : Int32) : Int32 := n + am_ush x (Int32.ofNat 1)
def pz3 (x n : Int32) : Int32 := if x ≤ (Int32.ofNat 4) then pz4 x n else pz4 (am_ush x (Int32.ofNat 2)) (n + (Int32.ofNat 2))
def pz2 (x n : Int32) : Int32 := if x ≤ (Int32.ofNat 16) then pz3 x n else pz3 (am_ush x (Int32.ofNat 4)) (n + (Int32.ofNat 4))
def pz1 (x n : Int32) : Int32 := if x ≤ (Int32.ofNat 256) then pz2 x n else pz2 (am_ush x (Int32.ofNat 8)) (n + (Int32.ofNat 8))
def pz0 (x n : Int32) : Int32 := if x ≤ (Int32.ofNat 65536) then pz1 x n else pz1 (am_ush x (Int32.ofNat 16)) (n + (Int32.ofNat 16))
def pf_ntz (x : Int32) : Int32 := if (Int32.ofNat 0) < ((x ^^^ -1) &&& (x - (Int32.ofNat 1))) then pz0 ((x ^^^ -1) &&& (x - (Int32.ofNat 1))) (Int32.ofNat 1) else ((x ^^^ -1) &&& (x - (Int32.ofNat 1))) &&& (Int32.ofNat 32)
theorem go_z4 (Φ : am_F) (x n : Int32) (h : am_H) : am_go Φ qJ_numberOfTrailingZeros_0f7a4 10 [.int x, .int n] [] h = some (.inl (some (pz4 x n)), h) := by
  simp -implicitDefEqProofs (disch := (first | omega | assumption | exact am_isS_3 | exact am_isS_25 | exact am_isX_356 | exact am_isX_359)) only [ggJ_numberOfTrailingZeros_0f7a4_0, ggJ_numberOfTrailingZeros_0f7a4_1, ggJ_numberOfTrailingZeros_0f7a4_2, ggJ_numberOfTrailingZeros_0f7a4_3, ggJ_numberOfTrailingZeros_0f7a4_4, ggJ_numberOfTrailingZeros_0f7a4_5, ggJ_numberOfTrailingZeros_0f7a4_6, ggJ_numberOfTrailingZeros_0f7a4_7, ggJ_numberOfTrailingZeros_0f7a4_8, ggJ_numberOfTrailingZeros_0f7a4_9, ggJ_numberOfTrailingZeros_0f7a4_10, pz4, am_kI_x, am_kV_x, am_kI_i, am_nI_i, am_kV_i, am_nV_i, ↓reduceIte, eq_self, if_true, if_false, c_in, c_tn, pn_add, pn_mul, pn_subc, pn_addm, c_le_t, c_le_f, c_lt_t, c_lt_f, c_eq_f, c_eqm, bi_z, bi_1, bi_b, bi_T, bi_F, ite_not, up_eq, up_ne, or_self, or_true, true_or, or_false, false_or, and_true, true_and, and_self, not_true_eq_false, not_false_eq_true, Bool.false_eq_true]
theorem go_z3 (Φ : am_F) (x n : Int32) (h : am_H) : am_go Φ qJ_numberOfTrailingZeros_0f7a4 8 [.int x, .int n] [] h = some (.inl (some (pz3 x n)), h) := by
  unfold pz3
  by_cases hq : x ≤ (Int32.ofNat 4)
  · simp -implicitDefEqProofs (disch := (first | omega | assumption | exact am_isS_3 | exact am_isS_25 | exact am_isX_356 | exact am_isX_359)) only [ggJ_numberOfTrailingZeros_0f7a4_0, ggJ_numberOfTrailingZeros_0f7a4_1, ggJ_numberOfTrailingZeros_0f7a4_2, ggJ_numberOfTrailingZeros_0f7a4_3, ggJ_numberOfTrailingZeros_0f7a4_4, ggJ_numberOfTrailingZeros_0f7a4_5, ggJ_numberOfTrailingZeros_0f7a4_6, ggJ_numberOfTrailingZeros_0f7a4_7, ggJ_numberOfTrailingZeros_0f7a4_8, ggJ_numberOfTrailingZeros_0f7a4_9, hq, go_z4, am_kI_x, am_kV_x, am_kI_i, am_nI_i, am_kV_i, am_nV_i, ↓reduceIte, eq_self, if_true, if_false, c_in, c_tn, pn_add, pn_mul, pn_subc, pn_addm, c_le_t, c_le_f, c_lt_t, c_lt_f, c_eq_f, c_eqm, bi_z, bi_1, bi_b, bi_T, bi_F, ite_not, up_eq, up_ne, or_self, or_true, true_or, or_false, false_or, and_true, true_and, and_self, not_true_eq_false, not_false_eq_true, Bool.false_eq_true]
  · simp -implicitDefEqProofs (disch := (first | omega | assumption | exact am_isS_3 | exact am_isS_25 | exact am_isX_356 | exact am_isX_359)) only [ggJ_numberOfTrailingZeros_0f7a4_0, ggJ_numberOfTrailingZeros_0f7a4_1, ggJ_numberOfTrailingZeros_0f7a4_2, ggJ_numberOfTrailingZeros_0f7a4_3, ggJ_numberOfTrailingZeros_0f7a4_4, ggJ_numberOfTrailingZeros_0f7a4_5, ggJ_numberOfTrailingZeros_0f7a4_6, ggJ_numberOfTrailingZeros_0f7a4_7, ggJ_numberOfTrailingZeros_0f7a4_8, ggJ_numberOfTrailingZeros_0f7a4_9, hq, go_z4, am_kI_x, am_kV_x, am_kI_i, am_nI_i, am_kV_i, am_nV_i, ↓reduceIte, eq_self, if_true, if_false, c_in, c_tn, pn_add, pn_mul, pn_subc, pn_addm, c_le_t, c_le_f, c_lt_t, c_lt_f, c_eq_f, c_eqm, bi_z, bi_1, bi_b, bi_T, bi_F, ite_not, up_eq, up_ne, or_self, or_true, true_or, or_false, false_or, and_true, true_and, and_self, not_true_eq_false, not_false_eq_true, Bool.false_eq_true]
theorem go_z2 (Φ : am_F) (x n : Int32) (h : am_H) : am_go Φ qJ_numberOfTrailingZeros_0f7a4 6 [.int x, .int n] [] h = some (.inl (some (pz2 x n)), h) := by
  unfold pz2
  by_cases hq : x ≤ (Int32.ofNat 16)
  · simp -implicitDefEqProofs (disch := (first | omega | assumption | exact am_isS_3 | exact am_isS_25 | exact am_isX_356 | exact am_isX_359)) only [ggJ_numberOfTrailingZeros_0f7a4_0, ggJ_numberOfTrailingZeros_0f7a4_1, ggJ_numberOfTrailingZeros_0f7a4_2, ggJ_numberOfTrailingZeros_0f7a4_3, ggJ_numberOfTrailingZeros_0f7a4_4, ggJ_numberOfTrailingZeros_0f7a4_5, ggJ_numberOfTrailingZeros_0f7a4_6, ggJ_numberOfTrailingZeros_0f7a4_7, ggJ_numberOfTrailingZeros_0f7a4_9, ggJ_numberOfTrailingZeros_0f7a4_10, hq, go_z3, am_kI_x, am_kV_x, am_kI_i, am_nI_i, am_kV_i, am_nV_i, ↓reduceIte, eq_self, if_true, if_false, c_in, c_tn, pn_add, pn_mul, pn_subc, pn_addm, c_le_t, c_le_f, c_lt_t, c_lt_f, c_eq_f, c_eqm, bi_z, bi_1, bi_b, bi_T, bi_F, ite_not, up_eq, up_ne, or_self, or_true, true_or, or_false, false_or, and_true, true_and, and_self, not_true_eq_false, not_false_eq_true, Bool.false_eq_true]
  · simp -implicitDefEqProofs (disch := (first | omega | assumption | exact am_isS_3 | exact am_isS_25 | exact am_isX_356 | exact am_isX_359)) only [ggJ_numberOfTrailingZeros_0f7a4_0, ggJ_numberOfTrailingZeros_0f7a4_1, ggJ_numberOfTrailingZeros_0f7a4_2, ggJ_numberOfTrailingZeros_0f7a4_3, ggJ_numberOfTrailingZeros_0f7a4_4, ggJ_numberOfTrailingZeros_0f7a4_5, ggJ_numberOfTrailingZeros_0f7a4_6, ggJ_numberOfTrailingZeros_0f7a4_7, ggJ_numberOfTrailingZeros_0f7a4_9, ggJ_numberOfTrailingZeros_0f7a4_10, hq, go_z3, am_kI_x, am_kV_x, am_kI_i, am_nI_i, am_kV_i, am_nV_i, ↓reduceIte, eq_self, if_true, if_false, c_in, c_tn, pn_add, pn_mul, pn_subc, pn_addm, c_le_t, c_le_f, c_lt_t, c_lt_f, c_eq_f, c_eqm, bi_z, bi_1, bi_b, bi_T, bi_F, ite_not, up_eq, up_ne, or_self, or_true, true_or, or_false, false_or, and_true, true_and, and_self, not_true_eq_false, not_false_eq_true, Bool.false_eq_true]
theorem go_z1 (Φ : am_F) (x n : Int32) (h : am_H) : am_go Φ qJ_numberOfTrailingZeros_0f7a4 4 [.int x, .int n] [] h = some (.inl (some (pz1 x n)), h) := by
  unfold pz1
  by_cases hq : x ≤ (Int32.ofNat 256)
  · simp -implicitDefEqProofs (disch := (first | omega | assumption | exact am_isS_3 | exact am_isS_25 | exact am_isX_356 | exact am_isX_359)) only [ggJ_numberOfTrailingZeros_0f7a4_0, ggJ_numberOfTrailingZeros_0f7a4_1, ggJ_numberOfTrailingZeros_0f7a4_2, ggJ_numberOfTrailingZeros_0f7a4_3, ggJ_numberOfTrailingZeros_0f7a4_4, ggJ_numberOfTrailingZeros_0f7a4_5, ggJ_numberOfTrailingZeros_0f7a4_7, ggJ_numberOfTrailingZeros_0f7a4_8, ggJ_numberOfTrailingZeros_0f7a4_9, ggJ_numberOfTrailingZeros_0f7a4_10, hq, go_z2, am_kI_x, am_kV_x, am_kI_i, am_nI_i, am_kV_i, am_nV_i, ↓reduceIte, eq_self, if_true, if_false, c_in, c_tn, pn_add, pn_mul, pn_subc, pn_addm, c_le_t, c_le_f, c_lt_t, c_lt_f, c_eq_f, c_eqm, bi_z, bi_1, bi_b, bi_T, bi_F, ite_not, up_eq, up_ne, or_self, or_true, true_or, or_false, false_or, and_true, true_and, and_self, not_true_eq_false, not_false_eq_true, Bool.false_eq_true]
  · simp -implicitDefEqProofs (disch := (first | omega | assumption | exact am_isS_3 | exact am_isS_25 | exact am_isX_356 | exact am_isX_359)) only [ggJ_numberOfTrailingZeros_0f7a4_0, ggJ_numberOfTrailingZeros_0f7a4_1, ggJ_numberOfTrailingZeros_0f7a4_2, ggJ_numberOfTrailingZeros_0f7a4_3, ggJ_numberOfTrailingZeros_0f7a4_4, ggJ_numberOfTrailingZeros_0f7a4_5, ggJ_numberOfTrailingZeros_0f7a4_7, ggJ_numberOfTrailingZeros_0f7a4_8, ggJ_numberOfTrailingZeros_0f7a4_9, ggJ_numberOfTrailingZeros_0f7a4_10, hq, go_z2, am_kI_x, am_kV_x, am_kI_i, am_nI_i, am_kV_i, am_nV_i, ↓reduceIte, eq_self, if_true, if_false, c_in, c_tn, pn_add, pn_mul, pn_subc, pn_addm, c_le_t, c_le_f, c_lt_t, c_lt_f, c_eq_f, c_eqm, bi_z, bi_1, bi_b, bi_T, bi_F, ite_not, up_eq, up_ne, or_self, or_true, true_or, or_false, false_or, and_true, true_and, and_self, not_true_eq_false, not_false_eq_true, Bool.false_eq_true]
theorem rR_ntz (d : Nat) (x : Int32) (h : am_H) : am_cl (d + 1) qJ_numberOfTrailingZeros_0f7a4 [.int x] h = some (.inl (some (pf_ntz x)), h) := by
  unfold pf_ntz pz0
  by_cases h0 : (Int32.ofNat 0) < ((x ^^^ -1) &&& (x - (Int32.ofNat 1)))
  · by_cases hq : ((x ^^^ -1) &&& (x - (Int32.ofNat 1))) ≤ (Int32.ofNat 65536)
    · simp -implicitDefEqProofs (disch := (first | omega | assumption | exact am_isS_3 | exact am_isS_25 | exact am_isX_356 | exact am_isX_359)) only [uJ_numberOfTrailingZeros_0f7a4, ggJ_numberOfTrailingZeros_0f7a4_0, ggJ_numberOfTrailingZeros_0f7a4_1, ggJ_numberOfTrailingZeros_0f7a4_2, ggJ_numberOfTrailingZeros_0f7a4_3, ggJ_numberOfTrailingZeros_0f7a4_5, ggJ_numberOfTrailingZeros_0f7a4_6, ggJ_numberOfTrailingZeros_0f7a4_7, ggJ_numberOfTrailingZeros_0f7a4_8, ggJ_numberOfTrailingZeros_0f7a4_9, ggJ_numberOfTrailingZeros_0f7a4_10, h0, hq, go_z1, am_kI_x, am_kV_x, am_kI_i, am_nI_i, am_kV_i, am_nV_i, ↓reduceIte, eq_self, if_true, if_false, c_in, c_tn, pn_add, pn_mul, pn_subc, pn_addm, c_le_t, c_le_f, c_lt_t, c_lt_f, c_eq_f, c_eqm, bi_z, bi_1, bi_b, bi_T, bi_F, ite_not, up_eq, up_ne, or_self, or_true, true_or, or_false, false_or, and_true, true_and, and_self, not_true_eq_false, not_false_eq_true, Bool.false_eq_true]
    · simp -implicitDefEqProofs (disch := (first | omega | assumption | exact am_isS_3 | exact am_isS_25 | exact am_isX_356 | exact am_isX_359)) only [uJ_numberOfTrailingZeros_0f7a4, ggJ_numberOfTrailingZeros_0f7a4_0, ggJ_numberOfTrailingZeros_0f7a4_1, ggJ_numberOfTrailingZeros_0f7a4_2, ggJ_numberOfTrailingZeros_0f7a4_3, ggJ_numberOfTrailingZeros_0f7a4_5, ggJ_numberOfTrailingZeros_0f7a4_6, ggJ_numberOfTrailingZeros_0f7a4_7, ggJ_numberOfTrailingZeros_0f7a4_8, ggJ_numberOfTrailingZeros_0f7a4_9, ggJ_numberOfTrailingZeros_0f7a4_10, h0, hq, go_z1, am_kI_x, am_kV_x, am_kI_i, am_nI_i, am_kV_i, am_nV_i, ↓reduceIte, eq_self, if_true, if_false, c_in, c_tn, pn_add, pn_mul, pn_subc, pn_addm, c_le_t, c_le_f, c_lt_t, c_lt_f, c_eq_f, c_eqm, bi_z, bi_1, bi_b, bi_T, bi_F, ite_not, up_eq, up_ne, or_self, or_true, true_or, or_false, false_or, and_true, true_and, and_self, not_true_eq_false, not_false_eq_true, Bool.false_eq_true]
  · simp -implicitDefEqProofs (disch := (first | omega | assumption | exact am_isS_3 | exact am_isS_25 | exact am_isX_356 | exact am_isX_359)) only [uJ_numberOfTrailingZeros_0f7a4, ggJ_numberOfTrailingZeros_0f7a4_0, ggJ_numberOfTrailingZeros_0f7a4_1, ggJ_numberOfTrailingZeros_0f7a4_2, ggJ_numberOfTrailingZeros_0f7a4_3, ggJ_numberOfTrailingZeros_0f7a4_5, ggJ_numberOfTrailingZeros_0f7a4_6, ggJ_numberOfTrailingZeros_0f7a4_7, ggJ_numberOfTrailingZeros_0f7a4_8, ggJ_numberOfTrailingZeros_0f7a4_9, ggJ_numberOfTrailingZeros_0f7a4_10, h0, go_z1, am_kI_x, am_kV_x, am_kI_i, am_nI_i, am_kV_i, am_nV_i, ↓reduceIte, eq_self, if_true, if_false, c_in, c_tn, pn_add, pn_mul, pn_subc, pn_addm, c_le_t, c_le_f, c_lt_t, c_lt_f, c_eq_f, c_eqm, bi_z, bi_1, bi_b, bi_T, bi_F, ite_not, up_eq, up_ne, or_self, or_true, true_or, or_false, false_or, and_true, true_and, and_self, not_true_eq_false, not_false_eq_true, Bool.false_eq_true]
def ntzN : Nat → Nat → Nat
  | 0, _ => 0
  | f + 1, s => if s % 2 = 1 then 0 else 1 + ntzN f (s / 2)
theorem ntz_all : (List.range 512).all (fun s => decide (s = 0) || decide (pf_ntz (Int32.ofNat s) = Int32.ofNat (ntzN 10 s))) = true := by decide +kernel
theorem ntz_eq {s : Nat} (h : s < 512) (h0 : s ≠ 0) : pf_ntz (Int32.ofNat s) = (Int32.ofNat (ntzN 10 s)) := by
  have := List.all_eq_true.mp ntz_all s (List.mem_range.mpr h)
  rw [decide_eq_false h0, Bool.false_or] at this
  exact of_decide_eq_true this
/-- the least finger goes: two ways to say it -/
theorem shut_all : (List.range 32).all (fun s => decide (s = 0) || (decide (Int32.ofNat s &&& Int32.ofNat (s - 1) = Int32.ofNat s ^^^ (Int32.ofNat 1 <<< (Int32.ofNat (ntzN 10 s) &&& Int32.ofNat 31))) && decide (Int32.ofNat (s &&& (s - 1)) = Int32.ofNat s &&& Int32.ofNat (s - 1)) && decide (s &&& (s - 1) < 32))) = true := by decide +kernel
theorem shut_next {s : Nat} (h : s < 32) (h0 : s ≠ 0) : (Int32.ofNat s) &&& (Int32.ofNat (s - 1)) = (Int32.ofNat s) ^^^ ((Int32.ofNat 1) <<< ((Int32.ofNat (ntzN 10 s)) &&& (Int32.ofNat 31))) ∧ (Int32.ofNat (s &&& (s - 1))) = (Int32.ofNat s) &&& (Int32.ofNat (s - 1)) ∧ s &&& (s - 1) < 32 := by
  have := List.all_eq_true.mp shut_all s (List.mem_range.mpr h)
  rw [decide_eq_false h0, Bool.false_or, Bool.and_eq_true, Bool.and_eq_true] at this
  exact ⟨of_decide_eq_true this.1.1, of_decide_eq_true this.1.2, of_decide_eq_true this.2⟩
theorem up_cw {h : am_H} {o i : Nat} {v : Int32} : am_up h o i v = cw h o (pu (h.2 o) i v) := by
  have := cw_up (h := h) (o := o) (i := i) (f := h.2 o) (v := v)
  rw [cw_self] at this
  exact this
theorem cw_cw {h : am_H} {o : Nat} {f g : Nat → Int32} : cw (cw h o f) o g = cw h o g := by
  unfold cw
  simp only
  congr 1
  funext o'
  by_cases hq : o' = o
  · rw [if_pos hq, if_pos hq]
  · rw [if_neg hq, if_neg hq, if_neg hq]
theorem cw_1 {h : am_H} {o : Nat} {f : Nat → Int32} : (cw h o f).1 = h.1 := rfl
