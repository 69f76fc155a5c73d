/-! the start heap -/
theorem h0_c (L : Nat) (xs : Nat → Int32) : (am_h0 L xs).2 374 0 = (Int32.ofNat 0) ∧ (am_h0 L xs).2 3 3 = (Int32.ofNat 0) ∧ (am_h0 L xs).2 374 4 = (am_h0 L xs).2 27 8 ∧ (am_h0 L xs).2 69 2 = (Int32.ofNat 0) ∧ (am_h0 L xs).2 0 13 = (Int32.ofNat 0) ∧ (am_h0 L xs).2 362 2 = (Int32.ofNat 0) ∧ (am_h0 L xs).2 335 6 = -1 := ⟨rfl, rfl, rfl, rfl, rfl, rfl, rfl⟩
