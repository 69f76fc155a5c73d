/-! the reference cuts a knot -/
theorem sR_isCut (d : Nat) {c k : Nat} (hc : c < 8) (hk : k < 8) (h : am_H) (e : h.2 374 (43 + 9 * c + 8) = Int32.ofNat k) : am_cl (d + 3) qR_isCut [.ref 373, .int (Int32.ofNat c)] h = some (.inl none, am_up (am_up h 374 (43 + 9 * k + 8) (-1)) 374 (43 + 9 * c + 8) (-1)) := by
  have e1 : am_tg 373 1 = 374 := rfl
  rw [uR_isCut, tR_isCut_0, if_pos (by rfl), if_pos (by rfl), show (8 : Int32) = Int32.ofNat 8 from rfl, sR_of d hc (by omega), am_kI_i, e, sR_at, am_kI_i, if_pos (by rfl), if_pos (pn_in (N := am_ln (am_tg 373 1)) (show 43 + 9 * k + 8 < 2113 by omega) (by decide)), if_pos (by rfl), sR_at, am_kI_i, if_pos (by rfl), if_pos (pn_in (N := am_ln (am_tg 373 1)) (show 43 + 9 * c + 8 < 2113 by omega) (by decide)), pn_tn (by omega), pn_tn (by omega), e1]
