/-! PURE: numbers -/
theorem pn_add (a b : Nat) : Int32.ofNat a + Int32.ofNat b = Int32.ofNat (a + b) := (Int32.ofNat_add a b).symm
theorem pn_mul (a b : Nat) : Int32.ofNat a * Int32.ofNat b = Int32.ofNat (a * b) := (Int32.ofNat_mul a b).symm
theorem pn_toInt {n : Nat} (h : n < 2147483648) : (Int32.ofNat n).toInt = (n : Int) := Int32.toInt_ofNat_of_lt h
theorem pn_tn {n : Nat} (h : n < 2147483648) : (Int32.ofNat n).toNatClampNeg = n := ct_clampN h
theorem pn_lt {a b : Nat} (ha : a < 2147483648) (hb : b < 2147483648) : (Int32.ofNat a < Int32.ofNat b) ↔ a < b := by
  rw [Int32.lt_iff_toInt_lt, pn_toInt ha, pn_toInt hb]
  omega
theorem pn_le {a b : Nat} (ha : a < 2147483648) (hb : b < 2147483648) : (Int32.ofNat a ≤ Int32.ofNat b) ↔ a ≤ b := by
  rw [Int32.le_iff_toInt_le, pn_toInt ha, pn_toInt hb]
  omega
theorem pn_eq {a b : Nat} (ha : a < 2147483648) (hb : b < 2147483648) : (Int32.ofNat a = Int32.ofNat b) ↔ a = b := by
  constructor
  · intro h
    have := congrArg Int32.toInt h
    rw [pn_toInt ha, pn_toInt hb] at this
    omega
  · intro h; rw [h]
theorem pn_in {n N : Nat} (h : n < N) (hn : N < 2147483648) : am_in (Int32.ofNat n) N = true := by
  unfold am_in
  have h0 : ¬ (Int32.ofNat n < 0) := by
    rw [Int32.lt_iff_toInt_lt, pn_toInt (by omega)]
    show ¬ ((n : Int) < 0)
    omega
  rw [pn_tn (by omega)]
  simp [h0, h]
theorem pn_sub {a b : Nat} (h : b ≤ a) : Int32.ofNat a - Int32.ofNat b = Int32.ofNat (a - b) := by
  have : Int32.ofNat a = Int32.ofNat (a - b) + Int32.ofNat b := by rw [pn_add, Nat.sub_add_cancel h]
  rw [this, Int32.add_sub_cancel]
/-! the reference's own readers; its row is cell 374 -/
theorem sR_children (d : Nat) (h : am_H) : am_cl (d + 1) qR_children [.ref 373] h = some (.inl (some (h.2 374 0)), h) := by
  rw [uR_children, tR_children_0]
  rfl
theorem sR_at (d : Nat) (c w : Nat) (h : am_H) : am_cl (d + 1) qR_at [.int (Int32.ofNat c), .int (Int32.ofNat w)] h = some (.inl (some (Int32.ofNat (43 + 9 * c + w))), h) := by
  rw [uR_at, tR_at_0, show (43 : Int32) = Int32.ofNat 43 from rfl, show (9 : Int32) = Int32.ofNat 9 from rfl, pn_mul, pn_add, pn_add]
theorem sR_of (d : Nat) {c w : Nat} (hc : c < 8) (hw : w < 9) (h : am_H) : am_cl (d + 2) qR_of [.ref 373, .int (Int32.ofNat c), .int (Int32.ofNat w)] h = some (.inl (some (h.2 374 (43 + 9 * c + w))), h) := by
  rw [uR_of, tR_of_0, sR_at]
  rw [if_pos (by rfl)]
  show (if am_in (Int32.ofNat (43 + 9 * c + w)) 2113 = true then (some (.inl (some (h.2 374 (Int32.ofNat (43 + 9 * c + w)).toNatClampNeg)), h) : Option am_R) else none) = _
  rw [if_pos (pn_in (by omega) (by omega)), pn_tn (by omega)]
/-- a loop over the children -/
theorem sR_howMany_l (d : Nat) {w : Nat} (hw : w < 9) (n : Int32) (h : am_H) {N : Nat} (hN : N ≤ 8) (e : h.2 374 0 = Int32.ofNat N) : ∀ (k c s : Nat), c + k = N → am_go (am_cl (d + 2)) qR_howMany 1 [.ref 373, .int (Int32.ofNat w), .int n, .int (Int32.ofNat s), .int (Int32.ofNat c)] [] h = some (.inl (some (Int32.ofNat (s + ((List.range' c k).countP (fun c => decide (h.2 374 (43 + 9 * c + w) = n)))))), h) := by
  intro k
  induction k with
  | zero =>
    intro c s hc
    rw [tR_howMany_1, sR_children, if_pos (by rfl)]
    show (if h.2 374 0 ≤ Int32.ofNat c then _ else _) = _
    rw [e, if_pos ((pn_le (by omega) (by omega)).mpr (by omega)), tR_howMany_6]
    rfl
  | succ k ih =>
    intro c s hc
    rw [tR_howMany_1, sR_children, if_pos (by rfl)]
    show (if h.2 374 0 ≤ Int32.ofNat c then _ else _) = _
    rw [e, if_neg (fun q => by have := (pn_le (by omega) (by omega)).mp q; omega), tR_howMany_2, if_pos (by rfl), sR_of d (by omega) hw]
    show (if h.2 374 (43 + 9 * c + w) = n then _ else _) = _
    rw [List.range'_succ, List.countP_cons]
    by_cases hq : h.2 374 (43 + 9 * c + w) = n
    · rw [if_pos hq, tR_howMany_3, tR_howMany_5, show (1 : Int32) = Int32.ofNat 1 from rfl, pn_add, pn_add, ih (c + 1) (s + 1) (by omega), if_pos (decide_eq_true hq)]
      rw [Nat.add_assoc, Nat.add_comm 1]
    · rw [if_neg hq, tR_howMany_4, tR_howMany_5, show (1 : Int32) = Int32.ofNat 1 from rfl, show (0 : Int32) = Int32.ofNat 0 from rfl, pn_add, pn_add, ih (c + 1) (s + 0) (by omega), if_neg (fun q => hq (of_decide_eq_true q))]
      rfl
