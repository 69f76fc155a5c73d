/-! the class's states -/
def am_isS (o : Nat) : Prop := am_kd o = 7 ∧ am_tg o 0 = o + 1 ∧ am_tg o 1 = o + 6 ∧ am_tg o 2 = o + 16 ∧ am_kd (o + 1) = 24 ∧ am_ln (o + 1) = 4 ∧ am_kd (o + 6) = 24 ∧ am_ln (o + 6) = 9 ∧ am_kd (o + 16) = 24 ∧ am_ln (o + 16) = 5 ∧ (∀ k, k < 4 → am_kd (o + 2 + k) = 20 ∧ am_ln (o + 2 + k) = 9) ∧ (∀ k, k < 9 → am_kd (o + 7 + k) = 20 ∧ am_ln (o + 7 + k) = 8) ∧ (∀ k, k < 5 → am_kd (o + 17 + k) = 20 ∧ am_ln (o + 17 + k) = 8)
def am_stL : List Nat := [3, 25, 47] ++ (List.range 12).map (fun i => 71 + 22 * i)
theorem am_stL_ok : ∀ o ∈ am_stL, am_isS o := by
  unfold am_isS
  decide +kernel
theorem am_isS.kd {o : Nat} (h : am_isS o) : am_kk (am_kd o) 7 = true := by rw [h.1]; rfl
/-- a row of the children's table, as a step reads it -/
theorem am_isS.ch {o k : Nat} (h : am_isS o) (hk : k < 9) : am_tg o 1 + 1 + k = o + 7 + k ∧ am_kd (am_tg o 1) = 24 ∧ am_in (Int32.ofNat k) (am_ln (am_tg o 1)) = true ∧ am_kd (am_tg o 1 + 1 + k) = 20 ∧ am_ln (am_tg o 1 + 1 + k) = 8 := by
  obtain ⟨h0, h1, h2, h3, h4, h5, h6, h7, h8, h9, h10, h11, h12⟩ := h
  have e : am_tg o 1 + 1 + k = o + 7 + k := by rw [h2]
  refine ⟨e, by rw [h2]; exact h6, by rw [h2, h7]; exact pn_in hk (by omega), by rw [e]; exact (h11 k hk).1, by rw [e]; exact (h11 k hk).2⟩
theorem sS_draw (d : Nat) {o : Nat} (ho : am_isS o) (h : am_H) : am_cl (d + 1) qS_draw [.ref o] h = some (.inl (some (am_ush (1103515245 * h.2 o 7 + 12345) 16 &&& 32767)), am_up h o 7 (1103515245 * h.2 o 7 + 12345)) := by
  rw [uS_draw, tS_draw_0, if_pos ho.kd, if_pos ho.kd, if_pos ho.kd, am_up_self]
theorem sS_untie0 (d : Nat) {o c : Nat} (ho : am_isS o) (hc : c < 8) (h : am_H) (e : h.2 (o + 15) c = -1) : am_cl (d + 1) qS_untie [.ref o, .int (Int32.ofNat c)] h = some (.inl none, h) := by
  obtain ⟨c1, c2, c3, c4, c5⟩ := ho.ch (k := 8) (by omega)
  have e8 : ((8 : Int32)).toNatClampNeg = 8 := rfl
  have c3 : am_in (8 : Int32) (am_ln (am_tg o 1)) = true := c3
  rw [uS_untie, tS_untie_0, if_pos ho.kd, if_pos c2, if_pos c3, e8, if_pos c4, if_pos (by rw [c5]; exact pn_in hc (by omega)), c1, pn_tn (by omega)]
  show (if h.2 (o + 15) c = -1 then _ else _) = _
  rw [if_pos e, tS_untie_2]
