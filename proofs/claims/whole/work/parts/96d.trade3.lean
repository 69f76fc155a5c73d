/-! trade, ring -/
def k0P (W : Nat → Int32) (N c : Nat) : Bool := decide (c < N) && decide (¬ W (43 + 9 * c + 5) = -1)
theorem trades_1 {W : Nat → Int32} {N : Nat} (hN : N ≤ 8) (e0 : W 0 = (Int32.ofNat N)) (d : Nat) : ∀ k c (h : am_H), c + k = 8 → h.2 374 = W → (∀ x, x < c → h.2 386 x = -1 ∧ h.2 387 x = (Int32.ofNat 0)) → ∃ h', am_go (am_cl (d + 5)) qR_trades 1 [.ref 373, .int (bset (k0P W N) c), .int (Int32.ofNat c), .null] [] h = am_go (am_cl (d + 5)) qR_trades 7 [.ref 373, .int (bset (k0P W N) 8), .int (Int32.ofNat 8), .null] [] h' ∧ h'.1 = h.1 ∧ (∀ x, x < 8 → h'.2 386 x = -1 ∧ h'.2 387 x = (Int32.ofNat 0)) ∧ ∀ p, p ≠ 386 → p ≠ 387 → h'.2 p = h.2 p := by
  intro k
  induction k with
  | zero =>
    intro c h hc eW e
    have hc : c = 8 := by omega
    subst hc
    refine ⟨h, ?_, rfl, e, fun _ _ _ => rfl⟩
    rw [ggR_trades_1]
    simp -implicitDefEqProofs (disch := (first | omega | assumption | exact am_isS_3 | exact am_isS_25 | exact am_isX_356 | exact am_isX_359)) only [ggR_trades_0, ggR_trades_2, ggR_trades_3, ggR_trades_4, ggR_trades_5, ggR_trades_6, ggR_trades_8, ggR_trades_10, ggR_trades_11, ggR_trades_12, ggR_trades_13, ggR_trades_14, ggR_trades_15, ccR_trades_2_1, ccR_trades_3_1, ccR_trades_8_2, ccR_trades_8_1, ccR_trades_9_1, ccR_trades_10_1, ccR_trades_12_2, ccR_trades_12_1, am_kI_x, am_kV_x, am_kI_i, am_nI_i, am_kV_i, am_nV_i, ↓reduceIte, eq_self, if_true, if_false, c_in, c_tn, pn_add, pn_mul, pn_subc, pn_addm, c_le_t, c_le_f, c_lt_t, c_lt_f, c_eq_f, c_eqm, bi_z, bi_1, bi_b, bi_T, bi_F, ite_not, up_eq, up_ne, or_self, or_true, true_or, or_false, false_or, and_true, true_and, and_self, not_true_eq_false, not_false_eq_true, Bool.false_eq_true]
  | succ k ih =>
    intro c h hc eW e
    have e0' : h.2 374 0 = (Int32.ofNat N) := by rw [eW]; exact e0
    have ew : h.2 374 (43 + 9 * c + 5) = W (43 + 9 * c + 5) := by rw [eW]
    obtain ⟨h', a, b, e', f⟩ := ih (c + 1) (am_up (am_up h 386 c (-1)) 387 c (Int32.ofNat 0)) (by omega) (by rw [up_o (by omega), up_o (by omega)]; exact eW) (fun x hx => by
      by_cases z : x = c
      · rw [z, up_ne (by omega), up_eq rfl rfl, up_eq rfl rfl]; exact ⟨rfl, rfl⟩
      · rw [up_ne (by omega), up_ne (by omega), up_ne (by omega), up_ne (by omega)]; exact e x (by omega))
    rw [bset_succ] at a
    refine ⟨h', ?_, b, e', fun p p1 p2 => by rw [f p p1 p2, up_o p2, up_o p1]⟩
    rw [ggR_trades_1]
    by_cases h1 : c < N
    · by_cases h2 : W (43 + 9 * c + 5) = -1
      · have hp : ¬ k0P W N c = true := by unfold k0P; rw [decide_eq_false (p := ¬ W (43 + 9 * c + 5) = -1) (fun q => q h2), Bool.and_false]; decide
        rw [if_neg hp] at a
        simp -implicitDefEqProofs (disch := (first | omega | assumption | exact am_isS_3 | exact am_isS_25 | exact am_isX_356 | exact am_isX_359)) only [ggR_trades_0, ggR_trades_2, ggR_trades_3, ggR_trades_4, ggR_trades_5, ggR_trades_6, ggR_trades_8, ggR_trades_10, ggR_trades_11, ggR_trades_12, ggR_trades_13, ggR_trades_14, ggR_trades_15, ccR_trades_2_1, ccR_trades_3_1, ccR_trades_8_2, ccR_trades_8_1, ccR_trades_9_1, ccR_trades_10_1, ccR_trades_12_2, ccR_trades_12_1, rR_children, e0', rR_keeps, ew, h2, or_zero32, am_kI_x, am_kV_x, am_kI_i, am_nI_i, am_kV_i, am_nV_i, ↓reduceIte, eq_self, if_true, if_false, c_in, c_tn, pn_add, pn_mul, pn_subc, pn_addm, c_le_t, c_le_f, c_lt_t, c_lt_f, c_eq_f, c_eqm, bi_z, bi_1, bi_b, bi_T, bi_F, ite_not, up_eq, up_ne, or_self, or_true, true_or, or_false, false_or, and_true, true_and, and_self, not_true_eq_false, not_false_eq_true, Bool.false_eq_true]
        exact a
      · have hp : k0P W N c = true := by unfold k0P; rw [decide_eq_true h1, decide_eq_true h2]; rfl
        rw [if_pos hp] at a
        simp -implicitDefEqProofs (disch := (first | omega | assumption | exact am_isS_3 | exact am_isS_25 | exact am_isX_356 | exact am_isX_359)) only [ggR_trades_0, ggR_trades_2, ggR_trades_3, ggR_trades_4, ggR_trades_5, ggR_trades_6, ggR_trades_8, ggR_trades_10, ggR_trades_11, ggR_trades_12, ggR_trades_13, ggR_trades_14, ggR_trades_15, ccR_trades_2_1, ccR_trades_3_1, ccR_trades_8_2, ccR_trades_8_1, ccR_trades_9_1, ccR_trades_10_1, ccR_trades_12_2, ccR_trades_12_1, rR_children, e0', rR_keeps, ew, h2, am_kI_x, am_kV_x, am_kI_i, am_nI_i, am_kV_i, am_nV_i, ↓reduceIte, eq_self, if_true, if_false, c_in, c_tn, pn_add, pn_mul, pn_subc, pn_addm, c_le_t, c_le_f, c_lt_t, c_lt_f, c_eq_f, c_eqm, bi_z, bi_1, bi_b, bi_T, bi_F, ite_not, up_eq, up_ne, or_self, or_true, true_or, or_false, false_or, and_true, true_and, and_self, not_true_eq_false, not_false_eq_true, Bool.false_eq_true]
        exact a
    · have hp : ¬ k0P W N c = true := by unfold k0P; rw [decide_eq_false h1, Bool.false_and]; decide
      rw [if_neg hp] at a
      simp -implicitDefEqProofs (disch := (first | omega | assumption | exact am_isS_3 | exact am_isS_25 | exact am_isX_356 | exact am_isX_359)) only [ggR_trades_0, ggR_trades_2, ggR_trades_3, ggR_trades_4, ggR_trades_5, ggR_trades_6, ggR_trades_8, ggR_trades_10, ggR_trades_11, ggR_trades_12, ggR_trades_13, ggR_trades_14, ggR_trades_15, ccR_trades_2_1, ccR_trades_3_1, ccR_trades_8_2, ccR_trades_8_1, ccR_trades_9_1, ccR_trades_10_1, ccR_trades_12_2, ccR_trades_12_1, rR_children, e0', or_zero32, am_kI_x, am_kV_x, am_kI_i, am_nI_i, am_kV_i, am_nV_i, ↓reduceIte, eq_self, if_true, if_false, c_in, c_tn, pn_add, pn_mul, pn_subc, pn_addm, c_le_t, c_le_f, c_lt_t, c_lt_f, c_eq_f, c_eqm, bi_z, bi_1, bi_b, bi_T, bi_F, ite_not, up_eq, up_ne, or_self, or_true, true_or, or_false, false_or, and_true, true_and, and_self, not_true_eq_false, not_false_eq_true, Bool.false_eq_true]
      exact a
theorem settle_1 (d : Nat) : ∀ k c (h : am_H), c + k = 8 → (∀ x, x < c → h.2 367 x = -1 ∧ h.2 368 x = (Int32.ofNat 0)) → ∃ h', am_go (am_cl d) qM_settleTrade 1 [.ref 365, .ref 3, .int (Int32.ofNat c), .null] [] h = am_go (am_cl d) qM_settleTrade 3 [.ref 365, .ref 3, .int (Int32.ofNat 8), .null] [] h' ∧ h'.1 = h.1 ∧ (∀ x, x < 8 → h'.2 367 x = -1 ∧ h'.2 368 x = (Int32.ofNat 0)) ∧ ∀ p, p < 365 → h'.2 p = h.2 p := by
  intro k
  induction k with
  | zero =>
    intro c h hc e
    have hc : c = 8 := by omega
    subst hc
    refine ⟨h, ?_, rfl, e, fun _ _ => rfl⟩
    rw [ggM_settleTrade_1]
    simp -implicitDefEqProofs (disch := (first | omega | assumption | exact am_isS_3 | exact am_isS_25 | exact am_isX_356 | exact am_isX_359)) only [ggM_settleTrade_0, ggM_settleTrade_2, ggM_settleTrade_5, ggM_settleTrade_6, ggM_settleTrade_7, ccM_settleTrade_3_2, ccM_settleTrade_3_1, ccM_settleTrade_6_2, ccM_settleTrade_6_1, am_kI_x, am_kV_x, am_kI_i, am_nI_i, am_kV_i, am_nV_i, ↓reduceIte, eq_self, if_true, if_false, c_in, c_tn, pn_add, pn_mul, pn_subc, pn_addm, c_le_t, c_le_f, c_lt_t, c_lt_f, c_eq_f, c_eqm, bi_z, bi_1, bi_b, bi_T, bi_F, ite_not, up_eq, up_ne, or_self, or_true, true_or, or_false, false_or, and_true, true_and, and_self, not_true_eq_false, not_false_eq_true, Bool.false_eq_true]
  | succ k ih =>
    intro c h hc e
    obtain ⟨h', a, b, e', f⟩ := ih (c + 1) (am_up (am_up (am_up h 367 c (-1)) 368 c (Int32.ofNat 0)) 369 c (Int32.ofNat c)) (by omega) (fun x hx => by
      by_cases z : x = c
      · rw [z, up_ne (by omega), up_ne (by omega), up_eq rfl rfl, up_ne (by omega), up_eq rfl rfl]; exact ⟨rfl, rfl⟩
      · rw [up_ne (by omega), up_ne (by omega), up_ne (by omega), up_ne (by omega), up_ne (by omega), up_ne (by omega)]; exact e x (by omega))
    refine ⟨h', ?_, b, e', fun p hp => by rw [f p hp, up_o (by omega), up_o (by omega), up_o (by omega)]⟩
    rw [ggM_settleTrade_1]
    simp -implicitDefEqProofs (disch := (first | omega | assumption | exact am_isS_3 | exact am_isS_25 | exact am_isX_356 | exact am_isX_359)) only [ggM_settleTrade_0, ggM_settleTrade_2, ggM_settleTrade_5, ggM_settleTrade_6, ggM_settleTrade_7, ccM_settleTrade_3_2, ccM_settleTrade_3_1, ccM_settleTrade_6_2, ccM_settleTrade_6_1, am_kI_x, am_kV_x, am_kI_i, am_nI_i, am_kV_i, am_nV_i, ↓reduceIte, eq_self, if_true, if_false, c_in, c_tn, pn_add, pn_mul, pn_subc, pn_addm, c_le_t, c_le_f, c_lt_t, c_lt_f, c_eq_f, c_eqm, bi_z, bi_1, bi_b, bi_T, bi_F, ite_not, up_eq, up_ne, or_self, or_true, true_or, or_false, false_or, and_true, true_and, and_self, not_true_eq_false, not_false_eq_true, Bool.false_eq_true]
    exact a
theorem settle_both {hC hR : am_H} {N G : Nat} (R : RelS hC 3 (hR.2 374) N G) (okt : okT (hR.2 374)) (okc : okC (hR.2 374) N) (d d' : Nat) : ∃ hC' hR', am_cl (d + 5) qM_settleTrade [.ref 365, .ref 3] hC = some (.inl none, hC') ∧ am_cl (d' + 6) qR_trades [.ref 373] hR = some (.inl none, hR') ∧ hC'.1 = hC.1 ∧ hR'.1 = hR.1 ∧ (∀ p, p < 365 → hC'.2 p = hC.2 p) ∧ (∀ p, p < 386 → hR'.2 p = hR.2 p) ∧ ∀ c, c < N → hC'.2 367 c = hR'.2 386 c ∧ hC'.2 368 c = hR'.2 387 c := by
  have hN := R.1
  have r3 := R.2.2.1
  have r4 := R.2.2.2.1
  obtain ⟨v, V⟩ := wo_nat okt
  obtain ⟨zn, -⟩ := bset_N (k0P (hR.2 374) N) (N := 8) (by omega)
  have zl := bsN_lt (k0P (hR.2 374) N) 8
  have zb : ∀ x, (bsN (k0P (hR.2 374) N) 8).testBit x = (decide (x < 8) && k0P (hR.2 374) N x) := fun x => by
    by_cases h8 : x < 8
    · rw [← tb_ofNat (by omega), ← zn, tb_bset _ (by omega) (by omega)]
    · have h2 : 2 ^ 8 ≤ 2 ^ x := Nat.pow_le_pow_right (by omega) (by omega)
      rw [Nat.testBit_lt_two_pow (Nat.lt_of_lt_of_le zl h2), decide_eq_false h8]
      rfl
  have es : ((Int32.ofNat (2 ^ N - 1)) &&& (bset (fun c => decide (hR.2 374 (43 + 9 * c + 5) = -1)) N ^^^ -1) : Int32) = bset (k0P (hR.2 374) N) 8 := by
    apply tb_ext
    intro c hc
    rw [tb_and, tb_not _ hc, tb_ofNat hc, tb_bset _ (by omega) hc, tb_bset _ (by omega) hc, Nat.testBit_two_pow_sub_one]
    unfold k0P
    by_cases h1 : c < N
    · rw [decide_eq_true h1, decide_eq_true (by omega : c < 8)]
      by_cases h2 : hR.2 374 (43 + 9 * c + 5) = -1
      · rw [decide_eq_true h2, decide_eq_false (fun q => q h2)]; rfl
      · rw [decide_eq_false h2, decide_eq_true h2]; rfl
    · rw [decide_eq_false h1, Bool.false_and, Bool.false_and, Bool.and_false]
  rw [zn] at es
  generalize bsN (k0P (hR.2 374) N) 8 = m at zn zl zb es
  have S : subK (hR.2 374) N m := ⟨zl, fun x hx => by
    rw [zb x, Bool.and_eq_true] at hx
    have hx := hx.2
    unfold k0P at hx
    rw [Bool.and_eq_true, decide_eq_true_eq, decide_eq_true_eq] at hx
    obtain ⟨x1, x2⟩ := hx
    obtain ⟨k, hk, ek⟩ := (okc x x1).2.2.2.2.2.1.resolve_left x2
    have : kpN (hR.2 374) x = k := by unfold kpN; rw [ek, c_tn (by omega)]
    rw [this]
    exact ⟨x1, hk, ek⟩⟩
  have cl := cnt_le (p := m.testBit) 8
  obtain ⟨h1, a1, a2, a3, a4⟩ := settle_1 (d + 4) 8 0 hC (by omega) (fun x hx => by omega)
  have R1 : RelS h1 3 (hR.2 374) N G := R.frame (fun p q1 q2 => a4 p (by omega))
  obtain ⟨h2, n1, b1, b2, b3, b4, b5⟩ := settle_4 V d 8 m 0 h1 S cl (by omega) R1
  obtain ⟨g1, c1, c2, c3, c4⟩ := trades_1 hN r3 d' 8 0 hR (by omega) rfl (fun x hx => by omega)
  obtain ⟨g2, f1, f2, f3, f4, f5⟩ := trades_7 hN r3 V d' 8 m g1 (Int32.ofNat 8) .null S cl (c4 374 (by omega) (by omega))
  refine ⟨h2, g2, ?_, ?_, b2.trans a2, f2.trans c2, fun p hp => ?_, fun p hp => ?_, fun c hc => ?_⟩
  · rw [uM_settleTrade, ggM_settleTrade_0]
    refine a1.trans ?_
    have r4' := R1.2.2.2.1
    have eb := fun d => sS_bitsOf am_isS_3 hN r4' d (k := 5) (by omega) (-1)
    rw [bs_rel R1 (k := 5) (by omega) (-1)] at eb
    have an := all_n hN
    simp -implicitDefEqProofs (disch := (first | omega | assumption | exact am_isS_3 | exact am_isS_25 | exact am_isX_356 | exact am_isX_359)) only [ggM_settleTrade_0, ggM_settleTrade_2, ggM_settleTrade_3, ggM_settleTrade_5, ggM_settleTrade_6, ggM_settleTrade_7, ccM_settleTrade_3_2, ccM_settleTrade_3_1, ccM_settleTrade_6_2, ccM_settleTrade_6_1, sS_everyone am_isS_3, r4', eb, an, es, am_kI_x, am_kV_x, am_kI_i, am_nI_i, am_kV_i, am_nV_i, ↓reduceIte, eq_self, if_true, if_false, c_in, c_tn, pn_add, pn_mul, pn_subc, pn_addm, c_le_t, c_le_f, c_lt_t, c_lt_f, c_eq_f, c_eqm, bi_z, bi_1, bi_b, bi_T, bi_F, ite_not, up_eq, up_ne, or_self, or_true, true_or, or_false, false_or, and_true, true_and, and_self, not_true_eq_false, not_false_eq_true, Bool.false_eq_true]
    exact b1
  · rw [uR_trades, ggR_trades_0]
    rw [zn] at c1
    exact c1.trans f1
  · funext i; rw [b5 p i (Or.inl ⟨by omega, by omega, by omega⟩), a4 p hp]
  · funext i; rw [f5 p i (Or.inl ⟨by omega, by omega⟩), c4 p (by omega) (by omega)]
  · by_cases hm : m.testBit c = true
    · obtain ⟨u1, u2⟩ := Out_un n1 8 m.testBit (fun x hx => (S.2 x hx).1) b3 f3 c hm
      obtain ⟨⟨x, hx, ex⟩, ⟨y, hy, ey⟩⟩ := b4 c hm
      obtain ⟨⟨x', hx', ex'⟩, ⟨y', hy', ey'⟩⟩ := f4 c hm
      have u1 : (h2.2 367 c).toNatClampNeg = (g2.2 386 c).toNatClampNeg := u1
      have u2 : (h2.2 368 c).toNatClampNeg = (g2.2 387 c).toNatClampNeg := u2
      rw [ex, ex', c_tn (by omega), c_tn (by omega)] at u1
      rw [ey, ey', c_tn (by omega), c_tn (by omega)] at u2
      rw [ex, ey, ex', ey', u1, u2]
      exact ⟨rfl, rfl⟩
    · rw [b5 367 c (Or.inr ⟨by omega, hm⟩), b5 368 c (Or.inr ⟨by omega, hm⟩), f5 386 c (Or.inr hm), f5 387 c (Or.inr hm), (a3 c (by omega)).1, (a3 c (by omega)).2, (c3 c (by omega)).1, (c3 c (by omega)).2]
      exact ⟨rfl, rfl⟩
theorem T_trade (x : Int32) : Two qF_trade [.ref 0, .int x] qR_trade [.ref 373, .int x] (am_ctt 22) := by
  intro d hC hR J
  have J0 := J.thr (Int32.ofNat 0)
  obtain ⟨⟨N, G, R, okt, okc, okk, RL⟩, -⟩ := id J0
  have hN := R.1
  have r3 := R.2.2.1
  have r4 := R.2.2.2.1
  rcases ch_cases hN x with ⟨c, hc, rfl⟩ | ⟨b1, b2⟩
  · obtain ⟨h1, h2, a1, a2, a3, a4, a5, a6, a7⟩ := settle_both R okt okc (d + 114) (d + 113)
    have J1 : J2 h1 h2 := J0.hi (fun p hp => a5 p hp) (fun p hp => a6 p (by omega))
    have ec := (a7 c hc).1
    refine ⟨h1, h2, J1, a4, Or.inl ⟨h2.2 386 c, a3, by rw [a6 373 (by omega)]; exact up_eq rfl rfl, ?_, ?_⟩⟩
    · simp -implicitDefEqProofs (disch := (first | omega | assumption | exact am_isS_3 | exact am_isS_25 | exact am_isX_356 | exact am_isX_359)) only [uF_trade, ggF_trade_0, ccF_trade_0_2, ccF_trade_0_1, xF_needChild hN r4 hc, a1, ec, am_kI_x, am_kV_x, am_kI_i, am_nI_i, am_kV_i, am_nV_i, ↓reduceIte, eq_self, if_true, if_false, c_in, c_tn, pn_add, pn_mul, pn_subc, pn_addm, c_le_t, c_le_f, c_lt_t, c_lt_f, c_eq_f, c_eqm, bi_z, bi_1, bi_b, bi_T, bi_F, ite_not, up_eq, up_ne, or_self, or_true, true_or, or_false, false_or, and_true, true_and, and_self, not_true_eq_false, not_false_eq_true, Bool.false_eq_true]
    · simp -implicitDefEqProofs (disch := (first | omega | assumption | exact am_isS_3 | exact am_isS_25 | exact am_isX_356 | exact am_isX_359)) only [uR_trade, ggR_trade_0, ggR_trade_1, ggR_trade_2, ccR_trade_0_2, ccR_trade_0_1, ccR_trade_2_1, rR_noChild, rR_throwsIf_f, r3, a2, am_kI_x, am_kV_x, am_kI_i, am_nI_i, am_kV_i, am_nV_i, ↓reduceIte, eq_self, if_true, if_false, c_in, c_tn, pn_add, pn_mul, pn_subc, pn_addm, c_le_t, c_le_f, c_lt_t, c_lt_f, c_eq_f, c_eqm, bi_z, bi_1, bi_b, bi_T, bi_F, ite_not, up_eq, up_ne, or_self, or_true, true_or, or_false, false_or, and_true, true_and, and_self, not_true_eq_false, not_false_eq_true, Bool.false_eq_true]
  · refine ⟨am_th hC, am_up (am_up hR 373 0 (Int32.ofNat 0)) 373 0 (Int32.ofNat 1), (J0.thr (Int32.ofNat 1)).th, rfl, Or.inr ⟨3, 1, (Int32.ofNat 0), rfl, by decide, up_eq rfl rfl, ?_, ?_⟩⟩
    · simp -implicitDefEqProofs (disch := (first | omega | assumption | exact am_isS_3 | exact am_isS_25 | exact am_isX_356 | exact am_isX_359)) only [uF_trade, ggF_trade_0, ccF_trade_0_2, ccF_trade_0_1, xF_needChild_x r4 b2, am_kI_x, am_kV_x, am_kI_i, am_nI_i, am_kV_i, am_nV_i, ↓reduceIte, eq_self, if_true, if_false, c_in, c_tn, pn_add, pn_mul, pn_subc, pn_addm, c_le_t, c_le_f, c_lt_t, c_lt_f, c_eq_f, c_eqm, bi_z, bi_1, bi_b, bi_T, bi_F, ite_not, up_eq, up_ne, or_self, or_true, true_or, or_false, false_or, and_true, true_and, and_self, not_true_eq_false, not_false_eq_true, Bool.false_eq_true]
    · simp -implicitDefEqProofs (disch := (first | omega | assumption | exact am_isS_3 | exact am_isS_25 | exact am_isX_356 | exact am_isX_359)) only [uR_trade, ggR_trade_0, ggR_trade_1, ggR_trade_2, ccR_trade_0_2, ccR_trade_0_1, ccR_trade_2_1, rR_noChild, rR_throwsIf_t, r3, b1, k_373, am_kI_x, am_kV_x, am_kI_i, am_nI_i, am_kV_i, am_nV_i, ↓reduceIte, eq_self, if_true, if_false, c_in, c_tn, pn_add, pn_mul, pn_subc, pn_addm, c_le_t, c_le_f, c_lt_t, c_lt_f, c_eq_f, c_eqm, bi_z, bi_1, bi_b, bi_T, bi_F, ite_not, up_eq, up_ne, or_self, or_true, true_or, or_false, false_or, and_true, true_and, and_self, not_true_eq_false, not_false_eq_true, Bool.false_eq_true]
theorem T_ring (x : Int32) : Two qF_ring [.ref 0, .int x] qR_ring [.ref 373, .int x] (am_ctt 23) := by
  intro d hC hR J
  have J0 := J.thr (Int32.ofNat 0)
  obtain ⟨⟨N, G, R, okt, okc, okk, RL⟩, -⟩ := id J0
  have hN := R.1
  have r3 := R.2.2.1
  have r4 := R.2.2.2.1
  rcases ch_cases hN x with ⟨c, hc, rfl⟩ | ⟨b1, b2⟩
  · obtain ⟨h1, h2, a1, a2, a3, a4, a5, a6, a7⟩ := settle_both R okt okc (d + 114) (d + 113)
    have J1 : J2 h1 h2 := J0.hi (fun p hp => a5 p hp) (fun p hp => a6 p (by omega))
    have ec := (a7 c hc).2
    refine ⟨h1, h2, J1, a4, Or.inl ⟨h2.2 387 c, a3, by rw [a6 373 (by omega)]; exact up_eq rfl rfl, ?_, ?_⟩⟩
    · simp -implicitDefEqProofs (disch := (first | omega | assumption | exact am_isS_3 | exact am_isS_25 | exact am_isX_356 | exact am_isX_359)) only [uF_ring, ggF_ring_0, ccF_ring_0_2, ccF_ring_0_1, xF_needChild hN r4 hc, a1, ec, am_kI_x, am_kV_x, am_kI_i, am_nI_i, am_kV_i, am_nV_i, ↓reduceIte, eq_self, if_true, if_false, c_in, c_tn, pn_add, pn_mul, pn_subc, pn_addm, c_le_t, c_le_f, c_lt_t, c_lt_f, c_eq_f, c_eqm, bi_z, bi_1, bi_b, bi_T, bi_F, ite_not, up_eq, up_ne, or_self, or_true, true_or, or_false, false_or, and_true, true_and, and_self, not_true_eq_false, not_false_eq_true, Bool.false_eq_true]
    · simp -implicitDefEqProofs (disch := (first | omega | assumption | exact am_isS_3 | exact am_isS_25 | exact am_isX_356 | exact am_isX_359)) only [uR_ring, ggR_ring_0, ggR_ring_1, ggR_ring_2, ccR_ring_0_2, ccR_ring_0_1, ccR_ring_2_1, rR_noChild, rR_throwsIf_f, r3, a2, am_kI_x, am_kV_x, am_kI_i, am_nI_i, am_kV_i, am_nV_i, ↓reduceIte, eq_self, if_true, if_false, c_in, c_tn, pn_add, pn_mul, pn_subc, pn_addm, c_le_t, c_le_f, c_lt_t, c_lt_f, c_eq_f, c_eqm, bi_z, bi_1, bi_b, bi_T, bi_F, ite_not, up_eq, up_ne, or_self, or_true, true_or, or_false, false_or, and_true, true_and, and_self, not_true_eq_false, not_false_eq_true, Bool.false_eq_true]
  · refine ⟨am_th hC, am_up (am_up hR 373 0 (Int32.ofNat 0)) 373 0 (Int32.ofNat 1), (J0.thr (Int32.ofNat 1)).th, rfl, Or.inr ⟨3, 1, (Int32.ofNat 0), rfl, by decide, up_eq rfl rfl, ?_, ?_⟩⟩
    · simp -implicitDefEqProofs (disch := (first | omega | assumption | exact am_isS_3 | exact am_isS_25 | exact am_isX_356 | exact am_isX_359)) only [uF_ring, ggF_ring_0, ccF_ring_0_2, ccF_ring_0_1, xF_needChild_x r4 b2, am_kI_x, am_kV_x, am_kI_i, am_nI_i, am_kV_i, am_nV_i, ↓reduceIte, eq_self, if_true, if_false, c_in, c_tn, pn_add, pn_mul, pn_subc, pn_addm, c_le_t, c_le_f, c_lt_t, c_lt_f, c_eq_f, c_eqm, bi_z, bi_1, bi_b, bi_T, bi_F, ite_not, up_eq, up_ne, or_self, or_true, true_or, or_false, false_or, and_true, true_and, and_self, not_true_eq_false, not_false_eq_true, Bool.false_eq_true]
    · simp -implicitDefEqProofs (disch := (first | omega | assumption | exact am_isS_3 | exact am_isS_25 | exact am_isX_356 | exact am_isX_359)) only [uR_ring, ggR_ring_0, ggR_ring_1, ggR_ring_2, ccR_ring_0_2, ccR_ring_0_1, ccR_ring_2_1, rR_noChild, rR_throwsIf_t, r3, b1, k_373, am_kI_x, am_kV_x, am_kI_i, am_nI_i, am_kV_i, am_nV_i, ↓reduceIte, eq_self, if_true, if_false, c_in, c_tn, pn_add, pn_mul, pn_subc, pn_addm, c_le_t, c_le_f, c_lt_t, c_lt_f, c_eq_f, c_eqm, bi_z, bi_1, bi_b, bi_T, bi_F, ite_not, up_eq, up_ne, or_self, or_true, true_or, or_false, false_or, and_true, true_and, and_self, not_true_eq_false, not_false_eq_true, Bool.false_eq_true]
