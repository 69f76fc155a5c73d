/-! a call of the law's script -/
theorem i64_32 (x : Int32) : x.toInt64.toInt32 = x := Int32.toInt32_toInt64 x
theorem lg_rf (x : Int64) : lg_cmp x x = (Int32.ofNat 0) := by unfold lg_cmp; simp
theorem sl_of {h : am_H} {L : Nat} (e : h.2 392 0 = (Int32.ofNat L)) (hL : L < 2147483648) : am_sl h = L := by unfold am_sl; rw [e]; exact pn_clamp hL
def Stp (b i : Nat) (h : am_H) : Prop := ∀ x5 x6, ∃ h2 y5 y6, am_go (am_cl 121) qW_law_ b [.ref 391, .ref 0, .ref 373, .ref 389, .int (Int32.ofNat i), x5, x6] [] h = am_go (am_cl 121) qW_law_ 273 [.ref 391, .ref 0, .ref 373, .ref 389, .int (Int32.ofNat i), y5, y6] [] h2 ∧ J2 h2 h2 ∧ h2.2 391 = h.2 391 ∧ h2.2 392 = h.2 392 ∧ h2.1 ≤ h.1 + 1
