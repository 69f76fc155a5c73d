/-! a finger opens: both sides -/
def Lk (hC hR : am_H) (o N G : Nat) : Prop := RelS hC o (hR.2 374) N G ∧ okT (hR.2 374) ∧ okC (hR.2 374) N ∧ okK (hR.2 374) N G ∧ RelL hC 335 (hR.2 374)
def rgk (k : Nat) (v : Int32) (N : Nat) : Prop := (k = 0 → rg v 1000) ∧ (k = 1 → rg v 9) ∧ (k = 2 → rg v 32) ∧ (k = 3 → rg v 10) ∧ (k = 4 → rm v 8) ∧ (k = 5 → rm v 8) ∧ (k = 6 → rg v 1000) ∧ (k = 7 → rg v 2) ∧ (k = 8 → rm v N)
theorem okC.ch {W : Nat → Int32} {N : Nat} (H : okC W N) {c k : Nat} (hk : k < 9) {v : Int32} (hv : rgk k v N) : okC (pu W (43 + 9 * c + k) v) N := by
  intro c' hc'
  obtain ⟨a0, a1, a2, a3, a4, a5, a6, a7, a8⟩ := H c' hc'
  obtain ⟨v0, v1, v2, v3, v4, v5, v6, v7, v8⟩ := hv
  by_cases hc : c' = c
  · subst hc
    refine ⟨?_, ?_, ?_, ?_, ?_, ?_, ?_, ?_, ?_⟩
    · by_cases q : k = 0
      · rw [pu_eq (by omega)]; exact v0 q
      · rw [pu_ne (by omega)]; exact a0
    · by_cases q : k = 1
      · rw [pu_eq (by omega)]; exact v1 q
      · rw [pu_ne (by omega)]; exact a1
    · by_cases q : k = 2
      · rw [pu_eq (by omega)]; exact v2 q
      · rw [pu_ne (by omega)]; exact a2
    · by_cases q : k = 3
      · rw [pu_eq (by omega)]; exact v3 q
      · rw [pu_ne (by omega)]; exact a3
    · by_cases q : k = 4
      · rw [pu_eq (by omega)]; exact v4 q
      · rw [pu_ne (by omega)]; exact a4
    · by_cases q : k = 5
      · rw [pu_eq (by omega)]; exact v5 q
      · rw [pu_ne (by omega)]; exact a5
    · by_cases q : k = 6
      · rw [pu_eq (by omega)]; exact v6 q
      · rw [pu_ne (by omega)]; exact a6
    · by_cases q : k = 7
      · rw [pu_eq (by omega)]; exact v7 q
      · rw [pu_ne (by omega)]; exact a7
    · by_cases q : k = 8
      · rw [pu_eq (by omega)]; exact v8 q
      · rw [pu_ne (by omega)]; exact a8
  · rw [pu_ne (by omega), pu_ne (by omega), pu_ne (by omega), pu_ne (by omega), pu_ne (by omega), pu_ne (by omega), pu_ne (by omega), pu_ne (by omega), pu_ne (by omega)]
    exact ⟨a0, a1, a2, a3, a4, a5, a6, a7, a8⟩
theorem okK.of2 {W W' : Nat → Int32} {N G : Nat} (H : okK W N G) (f : ∀ c k, c < N → (k = 2 ∨ k = 7 ∨ k = 8) → W' (43 + 9 * c + k) = W (43 + 9 * c + k)) : okK W' N G := by
  obtain ⟨a, b, e⟩ := H
  refine ⟨fun c hc => ?_, fun c k hc hk => ?_, ?_⟩
  · rw [f c 7 hc (by omega), f c 2 hc (by omega)]; exact a c hc
  · rw [f c 8 hc (by omega), f k 8 hk (by omega), f c 7 hc (by omega)]; exact b c k hc hk
  · rw [← e]
    exact cnt_congr (fun c hc => by rw [f c 7 hc (by omega)])
theorem rgk_0 {v : Int32} {N : Nat} (h : rg v 1000) : rgk 0 v N := ⟨fun _ => h, fun q => by omega, fun q => by omega, fun q => by omega, fun q => by omega, fun q => by omega, fun q => by omega, fun q => by omega, fun q => by omega⟩
theorem rgk_2 {v : Int32} {N : Nat} (h : rg v 32) : rgk 2 v N := ⟨fun q => by omega, fun q => by omega, fun _ => h, fun q => by omega, fun q => by omega, fun q => by omega, fun q => by omega, fun q => by omega, fun q => by omega⟩
theorem rgk_3 {v : Int32} {N : Nat} (h : rg v 10) : rgk 3 v N := ⟨fun q => by omega, fun q => by omega, fun q => by omega, fun _ => h, fun q => by omega, fun q => by omega, fun q => by omega, fun q => by omega, fun q => by omega⟩
theorem rgk_4 {v : Int32} {N : Nat} (h : rm v 8) : rgk 4 v N := ⟨fun q => by omega, fun q => by omega, fun q => by omega, fun q => by omega, fun _ => h, fun q => by omega, fun q => by omega, fun q => by omega, fun q => by omega⟩
theorem rgk_5 {v : Int32} {N : Nat} (h : rm v 8) : rgk 5 v N := ⟨fun q => by omega, fun q => by omega, fun q => by omega, fun q => by omega, fun q => by omega, fun _ => h, fun q => by omega, fun q => by omega, fun q => by omega⟩
theorem rgk_6 {v : Int32} {N : Nat} (h : rg v 1000) : rgk 6 v N := ⟨fun q => by omega, fun q => by omega, fun q => by omega, fun q => by omega, fun q => by omega, fun q => by omega, fun _ => h, fun q => by omega, fun q => by omega⟩
theorem rgk_7 {v : Int32} {N : Nat} (h : rg v 2) : rgk 7 v N := ⟨fun q => by omega, fun q => by omega, fun q => by omega, fun q => by omega, fun q => by omega, fun q => by omega, fun q => by omega, fun _ => h, fun q => by omega⟩
theorem rgk_8 {v : Int32} {N : Nat} (h : rm v N) : rgk 8 v N := ⟨fun q => by omega, fun q => by omega, fun q => by omega, fun q => by omega, fun q => by omega, fun q => by omega, fun q => by omega, fun q => by omega, fun _ => h⟩
theorem okT.ch {W : Nat → Int32} (H : okT W) {c k : Nat} {v : Int32} : okT (pu W (43 + 9 * c + k) v) := H.of (fun j h1 h2 => pu_ne (by omega))
theorem RelL.ch {h h' : am_H} {o p c k i : Nat} {W : Nat → Int32} {v w : Int32} (R : RelL h 335 W) (hp : p < 335) (hc : 43 + 9 * c + k < 415) : RelL (am_up h p i w) 335 (pu W (43 + 9 * c + k) v) := R.of (fun q h1 h2 => up_o (by omega)) (pu_ne (by omega)) (fun j h1 h2 => pu_ne (by omega))
/-- the row behind the opening keeps its bounds -/
theorem open_ok {W : Nat → Int32} {N G c : Nat} {v kp : Int32} (hN : N ≤ 8) (hc : c < N) (okt : okT W) (okc : okC W N) (hv : rg v 1000) (hk : rm kp 8) : okT (openW W c v kp G) ∧ okC (openW W c v kp G) N := by
  have k1 : okC (pu (pu (pu W (43 + 9 * c + 6) v) (43 + 9 * c + 5) kp) (43 + 9 * c + 7) (Int32.ofNat 1)) N := ((okc.ch (by omega) (rgk_6 hv)).ch (by omega) (rgk_5 hk)).ch (by omega) (rgk_7 ⟨1, by omega, rfl⟩)
  have hlo : ∀ j, j < 115 → j ≠ 5 → openW W c v kp G j = pu (pu (pu W (43 + 9 * c + 6) v) (43 + 9 * c + 5) kp) (43 + 9 * c + 7) (Int32.ofNat 1) j := fun j h1 h2 => openW_lo h1 h2
  refine ⟨?_, k1.of hN (fun j h1 h2 => hlo j h2 (by omega))⟩
  obtain ⟨a, b, e, e1, e2, e3, t⟩ := okt
  have lo : ∀ j, j < 43 → j ≠ 5 → openW W c v kp G j = W j := fun j h1 h2 => by
    rw [hlo j (by omega) h2, pu_ne (by omega), pu_ne (by omega), pu_ne (by omega)]
  refine ⟨by rw [lo _ (by omega) (by omega)]; exact a, by rw [lo _ (by omega) (by omega)]; exact b, by rw [lo _ (by omega) (by omega)]; exact e, by rw [lo _ (by omega) (by omega)]; exact e1, by rw [lo _ (by omega) (by omega)]; exact e2, by rw [lo _ (by omega) (by omega)]; exact e3, fun i hi => ?_⟩
  rw [lo _ (by omega) (by omega), lo _ (by omega) (by omega), lo _ (by omega) (by omega), lo _ (by omega) (by omega)]
  exact t i hi
/-- those opened stay so -/
def mono (hR hR' : am_H) (N : Nat) : Prop := ∀ c, c < N → hR.2 374 (43 + 9 * c + 7) = (Int32.ofNat 1) → hR'.2 374 (43 + 9 * c + 7) = (Int32.ofNat 1)
theorem mono.tr {a b c : am_H} {N : Nat} (h1 : mono a b N) (h2 : mono b c N) : mono a c N := fun i hi q => h2 i hi (h1 i hi q)
theorem mono.eq {a b : am_H} {N : Nat} (h : ∀ c, c < N → b.2 374 (43 + 9 * c + 7) = a.2 374 (43 + 9 * c + 7)) : mono a b N := fun i hi q => (h i hi).trans q
theorem ne01 : ¬ ((Int32.ofNat 0) : Int32) = (Int32.ofNat 1) := by decide
set_option maxHeartbeats 2000000 in
theorem finger_both {hC hR : am_H} {o N G c : Nat} (ho : am_isS o) (ho2 : o + 22 ≤ 335) (L : Lk hC hR o N G) (hcN : c < N) (e7 : hR.2 374 (43 + 9 * c + 7) = (Int32.ofNat 0)) (e8 : hR.2 374 (43 + 9 * c + 8) = -1) {s : Nat} (hs : s < 32) (hs0 : s ≠ 0) (es : hR.2 374 (43 + 9 * c + 2) = (Int32.ofNat s)) (d : Nat) : ∃ g hC1 hC' hR', g ≤ 1 ∧ (g = 0 ∧ hC' = hC1 ∨ g = 1 ∧ am_cl (d + 5) qS_opens [.ref o, .int (Int32.ofNat c), .ref 335] hC1 = some (.inl none, hC')) ∧ (∀ Φ x3 x4, am_go Φ qS_losesLastFinger 6 [.ref o, .int (Int32.ofNat c), .ref 335, .int x3, .int x4, .null] [] hC = some (.inl (some ((Int32.ofNat g))), hC1)) ∧ am_cl (d + 9) qR_isMoved [.ref 373, .int (Int32.ofNat c), .int (Int32.ofNat (ntzN 10 s))] hR = some (.inl none, hR') ∧ hR'.2 374 (43 + 9 * c + 7) = (Int32.ofNat g) ∧ Lk hC' hR' o N (G + g) ∧ frC o hC hC' ∧ frR hR hR' ∧ mono hR hR' N := by
  obtain ⟨R, okt, okc, okk, RL⟩ := L
  have hN : N ≤ 8 := R.1
  have hc : c < 8 := by omega
  obtain ⟨n1, n2, n3⟩ := shut_next hs hs0
  have R1 := R.ch (k := 2) (c := c) (by omega) hc (Int32.ofNat (s &&& (s - 1)))
  have c12 := R.2.2.2.2.2.2.2.2.2.2.2.1 2 c (by omega) hc
  have okc1 := okc.ch (c := c) (k := 2) (by omega) (rgk_2 ⟨_, n3, rfl⟩ : rgk 2 (Int32.ofNat (s &&& (s - 1))) N)
  have okt1 : okT (pu (hR.2 374) (43 + 9 * c + 2) (Int32.ofNat (s &&& (s - 1)))) := okt.ch
  have RL1 : RelL (am_up hC (o + 7 + 2) c (Int32.ofNat (s &&& (s - 1)))) 335 (pu (hR.2 374) (43 + 9 * c + 2) (Int32.ofNat (s &&& (s - 1)))) := RL.of (fun q h1 h2 => up_o (by omega)) (pu_ne (by omega)) (fun j h1 h2 => pu_ne (by omega))
  by_cases h0 : s &&& (s - 1) = 0
  · have hG : G < N := by
      rw [← okk.2.2]
      exact cnt_lt (c := c) (by rw [e7]; decide) hcN
    have eW : (cw hR 374 (pu (hR.2 374) (43 + 9 * c + 2) (Int32.ofNat (s &&& (s - 1))))).2 374 = pu (hR.2 374) (43 + 9 * c + 2) (Int32.ofNat (s &&& (s - 1))) := cw_eq
    obtain ⟨hC', hR', v, kp, x1, x2, x3, x4, x5, x6, x7, x8⟩ := opens_both (hC := am_up hC (o + 7 + 2) c (Int32.ofNat (s &&& (s - 1)))) (hR := cw hR 374 (pu (hR.2 374) (43 + 9 * c + 2) (Int32.ofNat (s &&& (s - 1))))) (c := c) ho ho2 (by rw [eW]; exact R1) (by rw [eW]; exact okt1) (by rw [eW]; exact okc1) (by rw [eW]; exact RL1) hG hcN d
    rw [eW] at x3
    obtain ⟨k1, k2⟩ := open_ok (G := G) hN hcN okt1 okc1 x5 x6
    have lo : ∀ j, j < 115 → j ≠ 5 → hR'.2 374 j = pu (pu (pu (pu (hR.2 374) (43 + 9 * c + 2) (Int32.ofNat (s &&& (s - 1)))) (43 + 9 * c + 6) v) (43 + 9 * c + 5) kp) (43 + 9 * c + 7) (Int32.ofNat 1) j := fun j h1 h2 => by rw [x3]; exact openW_lo h1 h2
    refine ⟨1, _, hC', hR', Nat.le_refl _, Or.inr ⟨rfl, x1⟩, fun Φ x3 x4 => ?_, ?_, ?_, ⟨x4, by rw [x3]; exact k1, by rw [x3]; exact k2, ?_, ?_⟩, (frC.up (by omega)).tr x7, (frR_cw4).tr x8, fun c' hc' q => ?_⟩
    · simp -implicitDefEqProofs (disch := (first | omega | assumption | exact am_isS_3 | exact am_isS_25 | exact am_isX_356 | exact am_isX_359)) only [ggS_losesLastFinger_0, ggS_losesLastFinger_1, ggS_losesLastFinger_2, ggS_losesLastFinger_3, ggS_losesLastFinger_4, ggS_losesLastFinger_5, ggS_losesLastFinger_6, ggS_losesLastFinger_7, ggS_losesLastFinger_8, ggS_losesLastFinger_9, ccS_losesLastFinger_1_1, ccS_losesLastFinger_4_1, c12, es, ← n2, h0, am_kI_x, am_kV_x, am_kI_i, am_nI_i, am_kV_i, am_nV_i, ↓reduceIte, eq_self, if_true, if_false, c_in, c_tn, pn_add, pn_mul, pn_subc, pn_addm, c_le_t, c_le_f, c_lt_t, c_lt_f, c_eq_f, c_eqm, bi_z, bi_1, bi_b, bi_T, bi_F, ite_not, up_eq, up_ne, or_self, or_true, true_or, or_false, false_or, and_true, true_and, and_self, not_true_eq_false, not_false_eq_true, Bool.false_eq_true]
    · have hk : am_cl (d + 8) qR_opens [.ref 373, .int (Int32.ofNat c)] (cw hR 374 (pu (hR.2 374) (43 + 9 * c + 2) (Int32.ofNat (s &&& (s - 1))))) = some (.inl none, hR') := by
        simp -implicitDefEqProofs (disch := (first | omega | assumption | exact am_isS_3 | exact am_isS_25 | exact am_isX_356 | exact am_isX_359)) only [uR_opens, ggR_opens_0, ggR_opens_1, ggR_opens_3, ggR_opens_4, ggR_opens_5, ccR_opens_0_1, ccR_opens_1_1, ccR_opens_2_5, ccR_opens_2_4, ccR_opens_2_3, ccR_opens_2_2, ccR_opens_2_1, ccR_opens_4_1, ccR_opens_5_2, ccR_opens_5_1, rR_hasKnot, cw_eq, pu_ne, e8, am_kI_x, am_kV_x, am_kI_i, am_nI_i, am_kV_i, am_nV_i, ↓reduceIte, eq_self, if_true, if_false, c_in, c_tn, pn_add, pn_mul, pn_subc, pn_addm, c_le_t, c_le_f, c_lt_t, c_lt_f, c_eq_f, c_eqm, bi_z, bi_1, bi_b, bi_T, bi_F, ite_not, up_eq, up_ne, or_self, or_true, true_or, or_false, false_or, and_true, true_and, and_self, not_true_eq_false, not_false_eq_true, Bool.false_eq_true]
        exact x2
      rw [h0] at hk
      simp -implicitDefEqProofs (disch := (first | omega | assumption | exact am_isS_3 | exact am_isS_25 | exact am_isX_356 | exact am_isX_359)) only [uR_isMoved, ggR_isMoved_0, ggR_isMoved_1, ggR_isMoved_2, ccR_isMoved_0_2, ccR_isMoved_0_1, ccR_isMoved_1_1, rR_at, rR_of, up_cw, cw_eq, cw_cw, pu_eq, es, ← n1, ← n2, h0, hk, am_kI_x, am_kV_x, am_kI_i, am_nI_i, am_kV_i, am_nV_i, ↓reduceIte, eq_self, if_true, if_false, c_in, c_tn, pn_add, pn_mul, pn_subc, pn_addm, c_le_t, c_le_f, c_lt_t, c_lt_f, c_eq_f, c_eqm, bi_z, bi_1, bi_b, bi_T, bi_F, ite_not, up_eq, up_ne, or_self, or_true, true_or, or_false, false_or, and_true, true_and, and_self, not_true_eq_false, not_false_eq_true, Bool.false_eq_true]
    · rw [lo _ (by omega) (by omega), pu_eq (by omega)]
    · obtain ⟨a, b, e⟩ := okk
      refine ⟨fun c' hc' => ?_, fun c' k' hc' hk' => ?_, ?_⟩
      · rw [lo _ (by omega) (by omega), lo _ (by omega) (by omega)]
        by_cases hq : c' = c
        · subst hq
          rw [pu_eq rfl, pu_ne (by omega), pu_ne (by omega), pu_ne (by omega), pu_eq rfl, h0]
          exact ⟨fun _ => rfl, fun _ => rfl⟩
        · rw [pu_ne (by omega), pu_ne (by omega), pu_ne (by omega), pu_ne (by omega), pu_ne (by omega), pu_ne (by omega), pu_ne (by omega), pu_ne (by omega)]
          exact a c' hc'
      · rw [lo _ (by omega) (by omega), lo _ (by omega) (by omega), lo _ (by omega) (by omega)]
        rw [pu_ne (by omega), pu_ne (by omega), pu_ne (by omega), pu_ne (by omega), pu_ne (by omega), pu_ne (by omega), pu_ne (by omega), pu_ne (by omega)]
        intro q
        by_cases hq : c' = c
        · subst hq
          rw [e8] at q
          exact absurd q.symm (by rw [c_eqm (by omega)]; exact fun h => h)
        · obtain ⟨b1, b2, b3⟩ := b c' k' hc' hk' q
          refine ⟨b1, b2, ?_⟩
          rw [pu_ne (by omega), pu_ne (by omega), pu_ne (by omega), pu_ne (by omega)]
          exact b3
      · rw [← e]
        refine cnt_set (c := c) (by rw [e7]; decide) ?_ (fun j hj8 hj => ?_) hcN
        · rw [lo _ (by omega) (by omega), pu_eq rfl]; decide
        · rw [lo _ (by omega) (by omega), pu_ne (by omega), pu_ne (by omega), pu_ne (by omega), pu_ne (by omega)]
    · refine RL1.of (fun q h1 h2 => x7.2 q (by omega) (by omega) (by omega)) ?_ (fun j h1 h2 => ?_)
      · rw [lo _ (by omega) (by omega), pu_ne (by omega), pu_ne (by omega), pu_ne (by omega)]
      · rw [x3]; exact openW_up hc h1
    · rw [lo _ (by omega) (by omega)]
      by_cases hq : c' = c
      · rw [hq, pu_eq rfl]
      · rw [pu_ne (by omega), pu_ne (by omega), pu_ne (by omega), pu_ne (by omega)]
        exact q
  · refine ⟨0, am_up hC (o + 7 + 2) c (Int32.ofNat (s &&& (s - 1))), am_up hC (o + 7 + 2) c (Int32.ofNat (s &&& (s - 1))), cw hR 374 (pu (hR.2 374) (43 + 9 * c + 2) (Int32.ofNat (s &&& (s - 1)))), by omega, Or.inl ⟨rfl, rfl⟩, fun Φ x3 x4 => ?_, ?_, ?_, ⟨by rw [cw_eq]; exact R1, by rw [cw_eq]; exact okt1, by rw [cw_eq]; exact okc1, ?_, by rw [cw_eq]; exact RL1⟩, frC.up (by omega), frR_cw4, mono.eq (fun c' hc' => by rw [cw_eq, pu_ne (by omega)])⟩
    · simp -implicitDefEqProofs (disch := (first | omega | assumption | exact am_isS_3 | exact am_isS_25 | exact am_isX_356 | exact am_isX_359)) only [ggS_losesLastFinger_0, ggS_losesLastFinger_1, ggS_losesLastFinger_2, ggS_losesLastFinger_3, ggS_losesLastFinger_4, ggS_losesLastFinger_5, ggS_losesLastFinger_6, ggS_losesLastFinger_7, ggS_losesLastFinger_8, ggS_losesLastFinger_9, ccS_losesLastFinger_1_1, ccS_losesLastFinger_4_1, c12, es, ← n2, am_kI_x, am_kV_x, am_kI_i, am_nI_i, am_kV_i, am_nV_i, ↓reduceIte, eq_self, if_true, if_false, c_in, c_tn, pn_add, pn_mul, pn_subc, pn_addm, c_le_t, c_le_f, c_lt_t, c_lt_f, c_eq_f, c_eqm, bi_z, bi_1, bi_b, bi_T, bi_F, ite_not, up_eq, up_ne, or_self, or_true, true_or, or_false, false_or, and_true, true_and, and_self, not_true_eq_false, not_false_eq_true, Bool.false_eq_true]
    · simp -implicitDefEqProofs (disch := (first | omega | assumption | exact am_isS_3 | exact am_isS_25 | exact am_isX_356 | exact am_isX_359)) only [uR_isMoved, ggR_isMoved_0, ggR_isMoved_1, ggR_isMoved_2, ccR_isMoved_0_2, ccR_isMoved_0_1, ccR_isMoved_1_1, rR_at, rR_of, up_cw, cw_eq, cw_cw, pu_eq, es, ← n1, ← n2, am_kI_x, am_kV_x, am_kI_i, am_nI_i, am_kV_i, am_nV_i, ↓reduceIte, eq_self, if_true, if_false, c_in, c_tn, pn_add, pn_mul, pn_subc, pn_addm, c_le_t, c_le_f, c_lt_t, c_lt_f, c_eq_f, c_eqm, bi_z, bi_1, bi_b, bi_T, bi_F, ite_not, up_eq, up_ne, or_self, or_true, true_or, or_false, false_or, and_true, true_and, and_self, not_true_eq_false, not_false_eq_true, Bool.false_eq_true]
    · rw [cw_eq, pu_ne (by omega)]; exact e7
    · rw [cw_eq]
      obtain ⟨a, b, e⟩ := okk
      refine ⟨fun c' hc' => ?_, fun c' k' hc' hk' => ?_, ?_⟩
      · by_cases hq : c' = c
        · subst hq
          rw [pu_ne (by omega), pu_eq rfl, e7]
          refine ⟨fun q => absurd q ne01, fun q => ?_⟩
          rw [c_eq_f h0 (by omega) (by omega)] at q
          exact q.elim
        · rw [pu_ne (by omega), pu_ne (by omega)]
          exact a c' hc'
      · rw [pu_ne (by omega), pu_ne (by omega), pu_ne (by omega)]
        exact b c' k' hc' hk'
      · rw [← e]
        exact cnt_congr (fun j hj => by rw [pu_ne (by omega)])
