/-! a birth -/
theorem RelS.add {h h' : am_H} {o : Nat} {W W' : Nat → Int32} {N G : Nat} (R : RelS h o W N G) (hN : N < 8) (a1 : h'.2 o 3 = (Int32.ofNat (N + 1))) (a2 : W' 0 = (Int32.ofNat (N + 1))) (b : ∀ p i, (p ≠ o ∨ i ≠ 3) → (p < o + 7 ∨ o + 16 ≤ p ∨ i ≠ N) → h'.2 p i = h.2 p i) (c : ∀ j, j ≠ 0 → (j < 43 + 9 * N ∨ 43 + 9 * N + 9 ≤ j) → W' j = W j) (e : ∀ k, k < 9 → h'.2 (o + 7 + k) N = W' (43 + 9 * N + k)) : RelS h' o W' (N + 1) G := by
  obtain ⟨r1, r2, r3, r4, r5, r6, r7, r8, r9, r10, r11, r12, r13⟩ := R
  refine ⟨by omega, by omega, a2, a1, ?_, ?_, ?_, ?_, ?_, ?_, ?_, ?_, ?_⟩
  · rw [c _ (by omega) (by omega)]; exact r5
  · rw [b _ _ (by omega) (by omega)]; exact r6
  · rw [b _ _ (by omega) (by omega), c _ (by omega) (by omega)]; exact r7
  · rw [b _ _ (by omega) (by omega), c _ (by omega) (by omega)]; exact r8
  · rw [b _ _ (by omega) (by omega), c _ (by omega) (by omega)]; exact r9
  · rw [b _ _ (by omega) (by omega), c _ (by omega) (by omega)]; exact r10
  · intro k t hk ht hh
    rw [b _ _ (by omega) (by omega), c _ (by omega) (by omega)]; exact r11 k t hk ht hh
  · intro k t hk ht
    by_cases hq : t = N
    · rw [hq]; exact e k hk
    · rw [b _ _ (by omega) (by omega), c _ (by omega) (by omega)]; exact r12 k t hk ht
  · intro k r hk hr
    rw [b _ _ (by omega) (by omega), c _ (by omega) (by omega)]; exact r13 k r hk hr
theorem xS_add_l {o : Nat} (ho : am_isS o) {c : Nat} (hc : c < 8) (v : Int32) (d : Nat) : ∀ (n i : Nat) (h : am_H), i + n = 9 → ∃ h', am_go (am_cl d) qS_add 3 [.ref o, .int v, .int (Int32.ofNat c), .int (Int32.ofNat i)] [] h = am_go (am_cl d) qS_add 5 [.ref o, .int v, .int (Int32.ofNat c), .int (Int32.ofNat 9)] [] h' ∧ h'.1 = h.1 ∧ (∀ k, i ≤ k → k < 9 → h'.2 (o + 7 + k) c = (Int32.ofNat 0)) ∧ ∀ p j, (p < o + 7 + i ∨ o + 16 ≤ p ∨ j ≠ c) → h'.2 p j = h.2 p j := by
  intro n
  induction n with
  | zero =>
    intro i h hi
    have hi : i = 9 := by omega
    subst hi
    refine ⟨h, ?_, rfl, fun k h1 h2 => by omega, fun p j _ => rfl⟩
    rw [ggS_add_3 _ _ _ _ _ ho]
    simp -implicitDefEqProofs (disch := (first | omega | assumption | exact am_isS_3 | exact am_isS_25 | exact am_isX_356 | exact am_isX_359)) only [ggS_add_0, ggS_add_1, ggS_add_2, ggS_add_4, am_kI_x, am_kV_x, am_kI_i, am_nI_i, am_kV_i, am_nV_i, ↓reduceIte, eq_self, if_true, if_false, c_in, c_tn, pn_add, pn_mul, pn_subc, pn_addm, c_le_t, c_le_f, c_lt_t, c_lt_f, c_eq_f, c_eqm, bi_z, bi_1, bi_b, bi_T, bi_F, ite_not, up_eq, up_ne, or_self, or_true, true_or, or_false, false_or, and_true, true_and, and_self, not_true_eq_false, not_false_eq_true, Bool.false_eq_true]
  | succ n ih =>
    intro i h hi
    obtain ⟨h', e, e1, e2, e3⟩ := ih (i + 1) (am_up h (o + 7 + i) c (Int32.ofNat 0)) (by omega)
    refine ⟨h', ?_, e1, fun k h1 h2 => ?_, fun p j hp => ?_⟩
    · rw [ggS_add_3 _ _ _ _ _ ho]
      simp -implicitDefEqProofs (disch := (first | omega | assumption | exact am_isS_3 | exact am_isS_25 | exact am_isX_356 | exact am_isX_359)) only [ggS_add_0, ggS_add_1, ggS_add_2, ggS_add_4, iSkc ho, iSnc ho, am_kI_x, am_kV_x, am_kI_i, am_nI_i, am_kV_i, am_nV_i, ↓reduceIte, eq_self, if_true, if_false, c_in, c_tn, pn_add, pn_mul, pn_subc, pn_addm, c_le_t, c_le_f, c_lt_t, c_lt_f, c_eq_f, c_eqm, bi_z, bi_1, bi_b, bi_T, bi_F, ite_not, up_eq, up_ne, or_self, or_true, true_or, or_false, false_or, and_true, true_and, and_self, not_true_eq_false, not_false_eq_true, Bool.false_eq_true]
      exact e
    · by_cases hk : k = i
      · rw [hk, e3 _ _ (by omega), up_eq rfl rfl]
      · exact e2 k (by omega) h2
    · rw [e3 p j (by omega), up_ne (by omega)]
def bornW (W : Nat → Int32) (N : Nat) (v : Int32) : Nat → Int32 := pu (pu (pu (pu (pu (pu (pu (pu (pu (pu W (43 + 9 * N + 0) (Int32.ofNat 0)) (43 + 9 * N + 1) v) (43 + 9 * N + 2) (Int32.ofNat 31)) (43 + 9 * N + 3) (Int32.ofNat 5)) (43 + 9 * N + 4) (-1)) (43 + 9 * N + 5) (-1)) (43 + 9 * N + 6) (Int32.ofNat 0)) (43 + 9 * N + 7) (Int32.ofNat 0)) (43 + 9 * N + 8) (-1)) 0 (Int32.ofNat (N + 1))
theorem rR_isBorn {h : am_H} {N : Nat} (hN : N < 8) (e : h.2 374 0 = (Int32.ofNat N)) (v : Int32) (d : Nat) : am_cl (d + 2) qR_isBorn [.ref 373, .int v] h = some (.inl none, cw h 374 (bornW (h.2 374) N v)) := by
  unfold bornW
  simp -implicitDefEqProofs (disch := (first | omega | assumption | exact am_isS_3 | exact am_isS_25 | exact am_isX_356 | exact am_isX_359)) only [uR_isBorn, ggR_isBorn_0, ccR_isBorn_0_10, ccR_isBorn_0_9, ccR_isBorn_0_8, ccR_isBorn_0_7, ccR_isBorn_0_6, ccR_isBorn_0_5, ccR_isBorn_0_4, ccR_isBorn_0_3, ccR_isBorn_0_2, ccR_isBorn_0_1, rR_children, rR_at, e, up_cw, cw_cw, cw_eq, pu_ne, am_kI_x, am_kV_x, am_kI_i, am_nI_i, am_kV_i, am_nV_i, ↓reduceIte, eq_self, if_true, if_false, c_in, c_tn, pn_add, pn_mul, pn_subc, pn_addm, c_le_t, c_le_f, c_lt_t, c_lt_f, c_eq_f, c_eqm, bi_z, bi_1, bi_b, bi_T, bi_F, ite_not, up_eq, up_ne, or_self, or_true, true_or, or_false, false_or, and_true, true_and, and_self, not_true_eq_false, not_false_eq_true, Bool.false_eq_true]
theorem born_both {hC hR : am_H} {o N G v : Nat} (ho : am_isS o) (ho2 : o + 22 ≤ 335) (L : Lk hC hR o N G) (hN : N < 8) (hv : v < 9) (d : Nat) : ∃ hC', am_cl (d + 1) qS_add [.ref o, .int (Int32.ofNat v)] hC = some (.inl (some ((Int32.ofNat N))), hC') ∧ Lk hC' (cw hR 374 (bornW (hR.2 374) N (Int32.ofNat v))) o (N + 1) G ∧ frC o hC hC' := by
  obtain ⟨R, okt, okc, okk, RL⟩ := L
  have r4 := R.2.2.2.1
  obtain ⟨h1, e, e1, e2, e3⟩ := xS_add_l ho (c := N) hN (Int32.ofNat v) d 9 0 (am_up hC o 3 (Int32.ofNat (N + 1))) (by omega)
  have hi : ∀ k, k < 9 → bornW (hR.2 374) N (Int32.ofNat v) (43 + 9 * N + k) = (am_up (am_up (am_up (am_up (am_up (am_up h1 (o + 7 + 1) N (Int32.ofNat v)) (o + 7 + 2) N (Int32.ofNat 31)) (o + 7 + 3) N (Int32.ofNat 5)) (o + 7 + 4) N (-1)) (o + 7 + 5) N (-1)) (o + 7 + 8) N (-1)).2 (o + 7 + k) N := fun k hk => by
    unfold bornW
    rcases (show k = 0 ∨ k = 1 ∨ k = 2 ∨ k = 3 ∨ k = 4 ∨ k = 5 ∨ k = 6 ∨ k = 7 ∨ k = 8 by omega) with rfl | rfl | rfl | rfl | rfl | rfl | rfl | rfl | rfl
    all_goals simp (disch := omega) only [pu_eq, pu_ne, up_eq, up_ne, e2]
  have lo : ∀ j, j ≠ 0 → (j < 43 + 9 * N ∨ 43 + 9 * N + 9 ≤ j) → bornW (hR.2 374) N (Int32.ofNat v) j = hR.2 374 j := fun j q1 q2 => by
    unfold bornW
    simp (disch := omega) only [pu_ne]
  have bw : ∀ k, k < 9 → bornW (hR.2 374) N (Int32.ofNat v) (43 + 9 * N + k) = if k = 1 then (Int32.ofNat v) else if k = 2 then (Int32.ofNat 31) else if k = 3 then (Int32.ofNat 5) else if k = 4 ∨ k = 5 ∨ k = 8 then -1 else (Int32.ofNat 0) := fun k hk => by
    unfold bornW
    rcases (show k = 0 ∨ k = 1 ∨ k = 2 ∨ k = 3 ∨ k = 4 ∨ k = 5 ∨ k = 6 ∨ k = 7 ∨ k = 8 by omega) with rfl | rfl | rfl | rfl | rfl | rfl | rfl | rfl | rfl
    all_goals (simp (disch := omega) only [pu_eq, pu_ne]; rfl)
  have ne31 : ¬ ((Int32.ofNat 31) : Int32) = (Int32.ofNat 0) := by decide
  refine ⟨am_up (am_up (am_up (am_up (am_up (am_up h1 (o + 7 + 1) N (Int32.ofNat v)) (o + 7 + 2) N (Int32.ofNat 31)) (o + 7 + 3) N (Int32.ofNat 5)) (o + 7 + 4) N (-1)) (o + 7 + 5) N (-1)) (o + 7 + 8) N (-1), ?_, ⟨?_, ?_, ?_, ?_, ?_⟩, ?_, ?_⟩
  · simp -implicitDefEqProofs (disch := (first | omega | assumption | exact am_isS_3 | exact am_isS_25 | exact am_isX_356 | exact am_isX_359)) only [uS_add, ggS_add_0, ggS_add_1, ggS_add_2, ggS_add_4, r4, am_kI_x, am_kV_x, am_kI_i, am_nI_i, am_kV_i, am_nV_i, ↓reduceIte, eq_self, if_true, if_false, c_in, c_tn, pn_add, pn_mul, pn_subc, pn_addm, c_le_t, c_le_f, c_lt_t, c_lt_f, c_eq_f, c_eqm, bi_z, bi_1, bi_b, bi_T, bi_F, ite_not, up_eq, up_ne, or_self, or_true, true_or, or_false, false_or, and_true, true_and, and_self, not_true_eq_false, not_false_eq_true, Bool.false_eq_true]
    rw [e]
    simp -implicitDefEqProofs (disch := (first | omega | assumption | exact am_isS_3 | exact am_isS_25 | exact am_isX_356 | exact am_isX_359)) only [ggS_add_0, ggS_add_1, ggS_add_2, ggS_add_4, ggS_add_5, am_kI_x, am_kV_x, am_kI_i, am_nI_i, am_kV_i, am_nV_i, ↓reduceIte, eq_self, if_true, if_false, c_in, c_tn, pn_add, pn_mul, pn_subc, pn_addm, c_le_t, c_le_f, c_lt_t, c_lt_f, c_eq_f, c_eqm, bi_z, bi_1, bi_b, bi_T, bi_F, ite_not, up_eq, up_ne, or_self, or_true, true_or, or_false, false_or, and_true, true_and, and_self, not_true_eq_false, not_false_eq_true, Bool.false_eq_true]
  · rw [cw_eq]
    refine R.add hN ?_ (by unfold bornW; exact pu_eq rfl) (fun p i q1 q2 => ?_) lo (fun k hk => (hi k hk).symm)
    · rw [up_ne (by omega), up_ne (by omega), up_ne (by omega), up_ne (by omega), up_ne (by omega), up_ne (by omega), e3 _ _ (by omega), up_eq rfl rfl]
    · rw [up_ne (by omega), up_ne (by omega), up_ne (by omega), up_ne (by omega), up_ne (by omega), up_ne (by omega), e3 _ _ (by omega), up_ne (by omega)]
  · rw [cw_eq]
    obtain ⟨a, b, c, e1', e2', e3', t⟩ := okt
    refine ⟨by rw [lo _ (by omega) (by omega)]; exact a, by rw [lo _ (by omega) (by omega)]; exact b, by rw [lo _ (by omega) (by omega)]; exact c, by rw [lo _ (by omega) (by omega)]; exact e1', by rw [lo _ (by omega) (by omega)]; exact e2', by rw [lo _ (by omega) (by omega)]; exact e3', fun i hi => ?_⟩
    rw [lo _ (by omega) (by omega), lo _ (by omega) (by omega), lo _ (by omega) (by omega), lo _ (by omega) (by omega)]
    exact t i hi
  · rw [cw_eq]
    intro c hc
    by_cases hq : c = N
    · rw [hq, bw 0 (by omega), bw 1 (by omega), bw 2 (by omega), bw 3 (by omega), bw 4 (by omega), bw 5 (by omega), bw 6 (by omega), bw 7 (by omega), bw 8 (by omega)]
      exact ⟨⟨0, by omega, rfl⟩, ⟨v, hv, rfl⟩, ⟨31, by omega, rfl⟩, ⟨5, by omega, rfl⟩, Or.inl rfl, Or.inl rfl, ⟨0, by omega, rfl⟩, ⟨0, by omega, rfl⟩, Or.inl rfl⟩
    · rw [lo _ (by omega) (by omega), lo _ (by omega) (by omega), lo _ (by omega) (by omega), lo _ (by omega) (by omega), lo _ (by omega) (by omega), lo _ (by omega) (by omega), lo _ (by omega) (by omega), lo _ (by omega) (by omega), lo _ (by omega) (by omega)]
      obtain ⟨a0, a1, a2, a3, a4, a5, a6, a7, a8⟩ := okc c (by omega)
      exact ⟨a0, a1, a2, a3, a4, a5, a6, a7, a8.elim Or.inl (fun q => Or.inr (rg_mono q (by omega)))⟩
  · rw [cw_eq]
    obtain ⟨a, b, q⟩ := okk
    refine ⟨fun c hc => ?_, fun c k hc hk => ?_, ?_⟩
    · by_cases hq : c = N
      · rw [hq, bw 7 (by omega), bw 2 (by omega)]
        exact ⟨fun z => absurd z ne01, fun z => absurd z ne31⟩
      · rw [lo _ (by omega) (by omega), lo _ (by omega) (by omega)]; exact a c (by omega)
    · intro z
      by_cases hq : c = N
      · rw [hq, bw 8 (by omega)] at z
        exact absurd z.symm (by show ¬ ((Int32.ofNat k) : Int32) = -1; rw [c_eqm (by omega)]; exact fun h => h)
      · rw [lo _ (by omega) (by omega)] at z
        have hkN : k < N := by
          rcases (okc c (by omega)).2.2.2.2.2.2.2.2 with y | ⟨m, hm, em⟩
          · rw [y] at z
            exact absurd z.symm (by rw [c_eqm (by omega)]; exact fun h => h)
          · rw [em] at z
            have := (pn_eq (by omega) (by omega)).mp z
            omega
        obtain ⟨b1, b2, b3⟩ := b c k (by omega) hkN z
        refine ⟨b1, ?_, ?_⟩
        · rw [lo _ (by omega) (by omega)]; exact b2
        · rw [lo _ (by omega) (by omega)]; exact b3
    · show cnt _ N + (if decide (bornW (hR.2 374) N (Int32.ofNat v) (43 + 9 * N + 7) = (Int32.ofNat 1)) = true then 1 else 0) = G
      have b7 : bornW (hR.2 374) N (Int32.ofNat v) (43 + 9 * N + 7) = (Int32.ofNat 0) := (bw 7 (by omega)).trans (by simp)
      rw [b7, if_neg (by decide), ← q, Nat.add_zero]
      exact cnt_congr (fun c hc => by rw [lo _ (by omega) (by omega)])
  · rw [cw_eq]
    exact RL.of (fun p q1 q2 => by
      funext j
      rw [up_ne (by omega), up_ne (by omega), up_ne (by omega), up_ne (by omega), up_ne (by omega), up_ne (by omega), e3 _ _ (by omega), up_ne (by omega)]) (lo _ (by omega) (by omega)) (fun j q1 q2 => lo _ (by omega) (by omega))
  · exact e1
  · intro p q1 q2 q3
    funext j
    rw [up_ne (by omega), up_ne (by omega), up_ne (by omega), up_ne (by omega), up_ne (by omega), up_ne (by omega), e3 _ _ (by omega), up_ne (by omega)]
