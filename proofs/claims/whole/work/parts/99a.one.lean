/-! both in one heap -/
theorem J2.side {hC hR hC' hR' : am_H} (J : J2 hC hR) (f : ∀ p, p < 373 → hC'.2 p = hC.2 p) (g : ∀ p, 373 ≤ p → p < 389 → hR'.2 p = hR.2 p) : J2 hC' hR' := J.of (fun p _ _ _ _ _ h _ => f p (by omega)) (by rw [f 1 (by omega)]) (by rw [f 362 (by omega)]) (f 363 (by omega)) (f 343 (by omega)) (fun j _ => by rw [g 374 (by omega) (by omega)]) (g 375 (by omega) (by omega)) (g 378 (by omega) (by omega)) (g 379 (by omega) (by omega)) (fun i _ => by rw [g 373 (by omega) (by omega)])
theorem am_frR2 {d j : Nat} {av : List Value} {h : am_H} {r : am_R} (hav : ∀ v ∈ av, am_pv (fun o => am_sdR o = true) v) (e : am_cl d j av h = some r) {o : Nat} (ho : 389 ≤ o ∧ o < 1000) : r.2.2 o = h.2 o :=
  am_cl_side (am_sck_sd am_sckR am_sdR_t) (am_sck_sI am_sckR am_PL_b) d j av h r hav e o (by simp [am_sdR]; omega)
theorem two_one {qF qR : Nat} {aF aR : List Value} {tab : List (Nat × Int32)} (H : Two qF aF qR aR tab) (hF : ∀ v ∈ aF, am_pv (fun o => am_sdF o = true) v) (hR : ∀ v ∈ aR, am_pv (fun o => am_sdR o = true) v) {h : am_H} (K : J2 h h) (d : Nat) : ∃ h1, (∀ p, 389 ≤ p → p < 1000 → h1.2 p = h.2 p) ∧ ((∃ v, am_cl (d + 120) qF aF h = some (.inl (some (v)), h1) ∧ ∀ w, ∃ h2, am_cl (d + 120) qR aR (am_up h1 389 0 w) = some (.inl (some (v)), h2) ∧ h2.2 373 0 = (Int32.ofNat 0) ∧ J2 h2 h2 ∧ h2.1 = h.1 ∧ ∀ p, 389 ≤ p → p < 1000 → h2.2 p = (am_up h1 389 0 w).2 p) ∨ ∃ e t, am_cl (d + 120) qF aF h = some (.inr e, h1) ∧ am_cf tab e = some t ∧ ∀ w, ∃ v h2, am_cl (d + 120) qR aR (am_up h1 389 0 w) = some (.inl (some (v)), h2) ∧ h2.2 373 0 = t ∧ J2 h2 h2 ∧ h2.1 = h.1 + 1 ∧ ∀ p, 389 ≤ p → p < 1000 → h2.2 p = (am_up h1 389 0 w).2 p) := by
  obtain ⟨h1, hRx, _, _, c⟩ := H d h h K
  have key : ∀ r, am_cl (d + 120) qF aF h = some (r, h1) → (∀ p, 373 ≤ p → p < 1000 → h1.2 p = h.2 p) ∧ ∀ w, J2 h (am_up h1 389 0 w) := fun r e => by
    have f : ∀ p, 373 ≤ p → p < 1000 → h1.2 p = h.2 p := fun p q1 q2 => am_frF hF e ⟨q1, q2⟩
    exact ⟨f, fun w => K.side (fun _ _ => rfl) (fun p q1 q2 => by rw [up_o (by omega)]; exact f p q1 (by omega))⟩
  have fin : ∀ r w hC' h2 x, am_cl (d + 120) qF aF h = some (r, h1) → hC' = h1 → J2 hC' h2 → am_cl (d + 120) qR aR (am_up h1 389 0 w) = some (x, h2) → J2 h2 h2 ∧ ∀ p, 389 ≤ p → p < 1000 → h2.2 p = (am_up h1 389 0 w).2 p := fun r w hC' h2 x e1 e2 J e3 => by
    subst e2
    exact ⟨J.side (fun p q => by rw [am_frR hR e3 q, up_o (by omega)]) (fun _ _ _ => rfl), fun p q1 q2 => am_frR2 hR e3 ⟨q1, q2⟩⟩
  rcases c with ⟨v, c1, c2, c3, c4⟩ | ⟨e, t, v, c1, c2, c3, c4, c5⟩
  · obtain ⟨k1, k2⟩ := key _ c3
    refine ⟨h1, fun p q1 q2 => k1 p (by omega) q2, Or.inl ⟨v, c3, fun w => ?_⟩⟩
    obtain ⟨hC', h2, J, g, x⟩ := H d h (am_up h1 389 0 w) (k2 w)
    rcases x with ⟨v', x1, x2, x3, x4⟩ | ⟨e', t', v', x1, x2, x3, x4, x5⟩
    · rw [c3] at x3
      cases x3
      obtain ⟨y1, y2⟩ := fin _ w _ h2 _ c3 rfl J x4
      exact ⟨h2, x4, x2, y1, by rw [g]; exact c1, y2⟩
    · rw [c3] at x4
      cases x4
  · obtain ⟨k1, k2⟩ := key _ c4
    refine ⟨h1, fun p q1 q2 => k1 p (by omega) q2, Or.inr ⟨e, t, c4, c2, fun w => ?_⟩⟩
    obtain ⟨hC', h2, J, g, x⟩ := H d h (am_up h1 389 0 w) (k2 w)
    rcases x with ⟨v', x1, x2, x3, x4⟩ | ⟨e', t', v', x1, x2, x3, x4, x5⟩
    · rw [c4] at x3
      cases x3
    · rw [c4] at x4
      cases x4
      rw [c2] at x2
      cases x2
      obtain ⟨y1, y2⟩ := fin _ w _ h2 _ c4 rfl J x5
      exact ⟨v', h2, x5, x3, y1, by rw [g]; exact c1, y2⟩
