/-! twins -/
/-- pairs that keep the same -/
theorem tw_all : (List.range 9).all (fun k => decide ((Int32.ofNat k * (Int32.ofNat k - Int32.ofNat 1)) / Int32.ofNat 2 = Int32.ofNat (k * (k - 1) / 2))) = true := by decide +kernel
theorem tw_at {k : Nat} (hk : k ≤ 8) : ((Int32.ofNat k) * ((Int32.ofNat k) - (Int32.ofNat 1))) / (Int32.ofNat 2) = (Int32.ofNat (k * (k - 1) / 2)) := of_decide_eq_true (List.all_eq_true.mp tw_all k (List.mem_range.mpr (by omega)))
def nsum (f : Nat → Nat) : Nat → Nat
  | 0 => 0
  | n + 1 => nsum f n + f n
theorem nsum_congr {f g : Nat → Nat} : ∀ {n : Nat}, (∀ i, i < n → f i = g i) → nsum f n = nsum g n := by
  intro n
  induction n with
  | zero => intro _; rfl
  | succ n ih => intro h; show nsum f n + f n = nsum g n + g n; rw [ih (fun i hi => h i (by omega)), h n (by omega)]
theorem nsum_add {f g : Nat → Nat} : ∀ {n : Nat}, nsum (fun i => f i + g i) n = nsum f n + nsum g n := by
  intro n
  induction n with
  | zero => rfl
  | succ n ih => show nsum (fun i => f i + g i) n + (f n + g n) = _; rw [ih]; show _ = nsum f n + f n + (nsum g n + g n); omega
theorem nsum_one {f : Nat → Nat} {t : Nat} : ∀ {n : Nat}, t < n → (∀ i, i < n → i ≠ t → f i = 0) → nsum f n = f t := by
  intro n
  induction n with
  | zero => intro h; omega
  | succ n ih =>
    intro h hz
    show nsum f n + f n = f t
    by_cases ht : t = n
    · have : nsum f n = 0 := by
        have e := nsum_congr (f := f) (g := fun _ => 0) (n := n) (fun i hi => hz i (by omega) (by omega))
        rw [e]
        clear e hz h ht ih
        induction n with
        | zero => rfl
        | succ n ih => show nsum (fun _ => 0) n + 0 = 0; rw [ih]
      rw [this, ht]; omega
    · rw [ih (by omega) (fun i hi hn => hz i (by omega) hn), hz n (by omega) (by omega)]; rfl
theorem nsum_zero : ∀ n, nsum (fun _ => 0) n = 0 := by
  intro n
  induction n with
  | zero => rfl
  | succ n ih => show nsum (fun _ => 0) n + 0 = 0; rw [ih]
def cT (W : Nat → Int32) (t N : Nat) : Nat := cnt (fun c => decide (W (43 + 9 * c + 5) = (Int32.ofNat t))) N
theorem half_succ (k : Nat) : (k + 1) * (k + 1 - 1) / 2 = k * (k - 1) / 2 + k := by
  rw [Nat.add_sub_cancel]
  cases k with
  | zero => rfl
  | succ k =>
    rw [Nat.add_sub_cancel]
    have : (k + 1 + 1) * (k + 1) = (k + 1) * k + (k + 1) * 2 := by
      rw [← Nat.mul_add, Nat.mul_comm]
    rw [this, Nat.add_mul_div_right _ _ (by omega)]
theorem tw_eq {W : Nat → Int32} : ∀ {N : Nat}, (∀ c, c < N → rm (W (43 + 9 * c + 5)) 8) → nsum (fun a => if W (43 + 9 * a + 5) = -1 then 0 else cnt (fun b => decide (W (43 + 9 * a + 5) = W (43 + 9 * b + 5))) a) N = nsum (fun t => cT W t N * (cT W t N - 1) / 2) 8 := by
  intro N
  induction N with
  | zero =>
    intro _
    refine (nsum_zero 8).symm.trans (nsum_congr (fun i _ => ?_))
    show (0 : Nat) = 0 * (0 - 1) / 2
    rfl
  | succ n ih =>
    intro h
    have ih := ih (fun c hc => h c (by omega))
    show nsum _ n + (if W (43 + 9 * n + 5) = -1 then 0 else cnt (fun b => decide (W (43 + 9 * n + 5) = W (43 + 9 * b + 5))) n) = _
    rw [ih]
    rcases h n (by omega) with hm | ⟨t, ht, et⟩
    · rw [if_pos hm, Nat.add_zero]
      refine nsum_congr (fun t ht => ?_)
      have : cT W t (n + 1) = cT W t n := by
        show cT W t n + _ = cT W t n
        rw [if_neg]
        · rfl
        · show ¬ decide (W (43 + 9 * n + 5) = (Int32.ofNat t)) = true
          rw [hm]
          simp only [decide_eq_true_eq]
          intro q
          have := c_eqm (a := t) (by omega)
          rw [← this]
          exact q.symm
      rw [this]
    · have hne : ¬ W (43 + 9 * n + 5) = -1 := by rw [et, c_eqm (by omega)]; exact fun q => q
      rw [if_neg hne]
      have e1 : ∀ i, i < 8 → cT W i (n + 1) * (cT W i (n + 1) - 1) / 2 = cT W i n * (cT W i n - 1) / 2 + (if i = t then cT W t n else 0) := fun i hi => by
        have es : cT W i (n + 1) = cT W i n + (if i = t then 1 else 0) := by
          show cT W i n + _ = _
          congr 1
          show (if decide (W (43 + 9 * n + 5) = (Int32.ofNat i)) = true then 1 else 0) = _
          rw [et]
          by_cases hq : i = t
          · rw [if_pos hq, if_pos (by rw [hq]; simp)]
          · rw [if_neg hq, if_neg]
            simp only [decide_eq_true_eq]
            rw [c_eq_f (by omega) (by omega) (by omega)]
            exact fun q => q
        rw [es]
        by_cases hq : i = t
        · rw [if_pos hq, if_pos hq, half_succ, hq]
        · rw [if_neg hq, if_neg hq]; rfl
      rw [nsum_congr e1, nsum_add]
      congr 1
      rw [nsum_one (f := fun i => if i = t then cT W t n else 0) ht (fun i _ hi => if_neg hi), if_pos rfl]
      unfold cT
      exact cnt_congr (fun c hc => by rw [et]; exact decide_eq_decide.mpr ⟨fun q => q.symm, fun q => q.symm⟩)
theorem itr_nsum (f : Nat → Nat) : ∀ n, itr (fun t b => b + f t) n 0 0 = nsum f n := by
  intro n
  induction n with
  | zero => rfl
  | succ n ih => rw [itr_succ, ih, Nat.zero_add]; rfl
theorem T_twins : Ans qF_twins [.ref 0] qR_twins [.ref 373] := by
  intro d hC hR J
  have J0 := J.thr (Int32.ofNat 0)
  obtain ⟨⟨N, G, R, okt, okc, okk, RL⟩, -⟩ := J
  have hN := R.1
  have r3 := R.2.2.1
  have cl : ∀ t, cT (hR.2 374) t N ≤ 8 := fun t => by have := cnt_le (p := fun c => decide (hR.2 374 (43 + 9 * c + 5) = (Int32.ofNat t))) N; unfold cT; omega
  refine ⟨(Int32.ofNat (nsum (fun t => cT (hR.2 374) t N * (cT (hR.2 374) t N - 1) / 2) 8)), hC, am_up hR 373 0 (Int32.ofNat 0), J0, rfl, rfl, up_eq rfl rfl, ?_, ?_⟩
  · rw [← itr_nsum, uF_twins, ggF_twins_0]
    have l : ∀ k c (s : Nat) (v : Value), c + k = 8 → am_go (am_cl (d + 119)) qF_twins 1 [.ref 0, .int (Int32.ofNat s), .int (Int32.ofNat c), v] [] hC = some (.inl (some ((Int32.ofNat (itr (fun t b => b + cT (hR.2 374) t N * (cT (hR.2 374) t N - 1) / 2) k c s)))), hC) := by
      intro k
      induction k with
      | zero =>
        intro c s v hc
        rw [ggF_twins_1]
        simp -implicitDefEqProofs (disch := (first | omega | assumption | exact am_isS_3 | exact am_isS_25 | exact am_isX_356 | exact am_isX_359)) only [ggF_twins_0, ggF_twins_2, ggF_twins_3, ccF_twins_2_1, itr, am_kI_x, am_kV_x, am_kI_i, am_nI_i, am_kV_i, am_nV_i, ↓reduceIte, eq_self, if_true, if_false, c_in, c_tn, pn_add, pn_mul, pn_subc, pn_addm, c_le_t, c_le_f, c_lt_t, c_lt_f, c_eq_f, c_eqm, bi_z, bi_1, bi_b, bi_T, bi_F, ite_not, up_eq, up_ne, or_self, or_true, true_or, or_false, false_or, and_true, true_and, and_self, not_true_eq_false, not_false_eq_true, Bool.false_eq_true]
      | succ k ih =>
        intro c s v hc
        have hm := fun d => hm_rel R (k := 5) (by omega) (Int32.ofNat c) d
        have ih := ih (c + 1) (s + cT (hR.2 374) c N * (cT (hR.2 374) c N - 1) / 2) (.int (Int32.ofNat (cT (hR.2 374) c N))) (by omega)
        have tw := tw_at (cl c)
        unfold cT at ih tw ⊢
        rw [ggF_twins_1]
        simp -implicitDefEqProofs (disch := (first | omega | assumption | exact am_isS_3 | exact am_isS_25 | exact am_isX_356 | exact am_isX_359)) only [ggF_twins_2, ggF_twins_3, ccF_twins_2_1, hm, am_kI_x, am_kV_x, am_kI_i, am_nI_i, am_kV_i, am_nV_i, ↓reduceIte, eq_self, if_true, if_false, c_in, c_tn, pn_add, pn_mul, pn_subc, pn_addm, c_le_t, c_le_f, c_lt_t, c_lt_f, c_eq_f, c_eqm, bi_z, bi_1, bi_b, bi_T, bi_F, ite_not, up_eq, up_ne, or_self, or_true, true_or, or_false, false_or, and_true, true_and, and_self, not_true_eq_false, not_false_eq_true, Bool.false_eq_true]
        rw [tw, pn_add]
        exact ih
    exact l 8 0 0 .null (by omega)
  · have inner : ∀ (a : Nat), a < N → ∀ k b (s : Nat), b + k = a → am_go (am_cl (d + 119)) qR_twins 3 [.ref 373, .int (Int32.ofNat s), .int (Int32.ofNat a), .int (Int32.ofNat b)] [] (am_up hR 373 0 (Int32.ofNat 0)) = am_go (am_cl (d + 119)) qR_twins 1 [.ref 373, .int (Int32.ofNat (itr (fun b s => s + (if ¬ hR.2 374 (43 + 9 * a + 5) = -1 ∧ hR.2 374 (43 + 9 * a + 5) = hR.2 374 (43 + 9 * b + 5) then 1 else 0)) k b s)), .int (Int32.ofNat (a + 1)), .int (Int32.ofNat a)] [] (am_up hR 373 0 (Int32.ofNat 0)) := by
      intro a ha k
      induction k with
      | zero =>
        intro b s hb
        have hb : b = a := by omega
        subst hb
        rw [ggR_twins_3]
        simp -implicitDefEqProofs (disch := (first | omega | assumption | exact am_isS_3 | exact am_isS_25 | exact am_isX_356 | exact am_isX_359)) only [ggR_twins_0, ggR_twins_2, ggR_twins_4, ggR_twins_5, ggR_twins_6, ggR_twins_7, ggR_twins_8, ggR_twins_9, ggR_twins_10, ccR_twins_1_1, ccR_twins_4_1, ccR_twins_5_2, ccR_twins_5_1, itr, am_kI_x, am_kV_x, am_kI_i, am_nI_i, am_kV_i, am_nV_i, ↓reduceIte, eq_self, if_true, if_false, c_in, c_tn, pn_add, pn_mul, pn_subc, pn_addm, c_le_t, c_le_f, c_lt_t, c_lt_f, c_eq_f, c_eqm, bi_z, bi_1, bi_b, bi_T, bi_F, ite_not, up_eq, up_ne, or_self, or_true, true_or, or_false, false_or, and_true, true_and, and_self, not_true_eq_false, not_false_eq_true, Bool.false_eq_true]
      | succ k ih =>
        intro b s hb
        have ih := fun s => ih (b + 1) s (by omega)
        rw [ggR_twins_3]
        by_cases h1 : hR.2 374 (43 + 9 * a + 5) = -1
        · simp -implicitDefEqProofs (disch := (first | omega | assumption | exact am_isS_3 | exact am_isS_25 | exact am_isX_356 | exact am_isX_359)) only [ggR_twins_0, ggR_twins_2, ggR_twins_4, ggR_twins_5, ggR_twins_6, ggR_twins_7, ggR_twins_8, ggR_twins_9, ggR_twins_10, ccR_twins_1_1, ccR_twins_4_1, ccR_twins_5_2, ccR_twins_5_1, rR_keeps, up_o, h1, itr, false_and, am_kI_x, am_kV_x, am_kI_i, am_nI_i, am_kV_i, am_nV_i, ↓reduceIte, eq_self, if_true, if_false, c_in, c_tn, pn_add, pn_mul, pn_subc, pn_addm, c_le_t, c_le_f, c_lt_t, c_lt_f, c_eq_f, c_eqm, bi_z, bi_1, bi_b, bi_T, bi_F, ite_not, up_eq, up_ne, or_self, or_true, true_or, or_false, false_or, and_true, true_and, and_self, not_true_eq_false, not_false_eq_true, Bool.false_eq_true]
          exact (ih (s + 0)).trans (by rw [h1]; simp only [not_true_eq_false, false_and, if_false])
        · by_cases h2 : hR.2 374 (43 + 9 * a + 5) = hR.2 374 (43 + 9 * b + 5)
          · have h3 : ¬ hR.2 374 (43 + 9 * b + 5) = -1 := by rw [← h2]; exact h1
            have ih := ih (s + 1)
            show _ = am_go _ _ _ [.ref 373, .int (Int32.ofNat (itr _ k (b + 1) (s + (if ¬ hR.2 374 (43 + 9 * a + 5) = -1 ∧ hR.2 374 (43 + 9 * a + 5) = hR.2 374 (43 + 9 * b + 5) then 1 else 0)))), _, _] [] _
            rw [show (if ¬ hR.2 374 (43 + 9 * a + 5) = -1 ∧ hR.2 374 (43 + 9 * a + 5) = hR.2 374 (43 + 9 * b + 5) then 1 else 0) = 1 from if_pos ⟨h1, h2⟩, ← ih]
            simp -implicitDefEqProofs (disch := (first | omega | assumption | exact am_isS_3 | exact am_isS_25 | exact am_isX_356 | exact am_isX_359)) only [ggR_twins_0, ggR_twins_2, ggR_twins_4, ggR_twins_5, ggR_twins_6, ggR_twins_7, ggR_twins_8, ggR_twins_9, ggR_twins_10, ccR_twins_1_1, ccR_twins_4_1, ccR_twins_5_2, ccR_twins_5_1, rR_keeps, rR_of, up_o, h2, h3, am_kI_x, am_kV_x, am_kI_i, am_nI_i, am_kV_i, am_nV_i, ↓reduceIte, eq_self, if_true, if_false, c_in, c_tn, pn_add, pn_mul, pn_subc, pn_addm, c_le_t, c_le_f, c_lt_t, c_lt_f, c_eq_f, c_eqm, bi_z, bi_1, bi_b, bi_T, bi_F, ite_not, up_eq, up_ne, or_self, or_true, true_or, or_false, false_or, and_true, true_and, and_self, not_true_eq_false, not_false_eq_true, Bool.false_eq_true]
          · have ih := ih (s + 0)
            show _ = am_go _ _ _ [.ref 373, .int (Int32.ofNat (itr _ k (b + 1) (s + (if ¬ hR.2 374 (43 + 9 * a + 5) = -1 ∧ hR.2 374 (43 + 9 * a + 5) = hR.2 374 (43 + 9 * b + 5) then 1 else 0)))), _, _] [] _
            rw [show (if ¬ hR.2 374 (43 + 9 * a + 5) = -1 ∧ hR.2 374 (43 + 9 * a + 5) = hR.2 374 (43 + 9 * b + 5) then 1 else 0) = 0 from if_neg (fun q => h2 q.2), ← ih]
            simp -implicitDefEqProofs (disch := (first | omega | assumption | exact am_isS_3 | exact am_isS_25 | exact am_isX_356 | exact am_isX_359)) only [ggR_twins_0, ggR_twins_2, ggR_twins_4, ggR_twins_5, ggR_twins_6, ggR_twins_7, ggR_twins_8, ggR_twins_9, ggR_twins_10, ccR_twins_1_1, ccR_twins_4_1, ccR_twins_5_2, ccR_twins_5_1, rR_keeps, rR_of, up_o, h1, h2, am_kI_x, am_kV_x, am_kI_i, am_nI_i, am_kV_i, am_nV_i, ↓reduceIte, eq_self, if_true, if_false, c_in, c_tn, pn_add, pn_mul, pn_subc, pn_addm, c_le_t, c_le_f, c_lt_t, c_lt_f, c_eq_f, c_eqm, bi_z, bi_1, bi_b, bi_T, bi_F, ite_not, up_eq, up_ne, or_self, or_true, true_or, or_false, false_or, and_true, true_and, and_self, not_true_eq_false, not_false_eq_true, Bool.false_eq_true]
    have icnt : ∀ a s, itr (fun b s => s + (if ¬ hR.2 374 (43 + 9 * a + 5) = -1 ∧ hR.2 374 (43 + 9 * a + 5) = hR.2 374 (43 + 9 * b + 5) then 1 else 0)) a 0 s = s + (if hR.2 374 (43 + 9 * a + 5) = -1 then 0 else cnt (fun b => decide (hR.2 374 (43 + 9 * a + 5) = hR.2 374 (43 + 9 * b + 5))) a) := by
      intro a s
      have gen : ∀ n, itr (fun b s => s + (if ¬ hR.2 374 (43 + 9 * a + 5) = -1 ∧ hR.2 374 (43 + 9 * a + 5) = hR.2 374 (43 + 9 * b + 5) then 1 else 0)) n 0 s = s + (if hR.2 374 (43 + 9 * a + 5) = -1 then 0 else cnt (fun b => decide (hR.2 374 (43 + 9 * a + 5) = hR.2 374 (43 + 9 * b + 5))) n) := by
        intro n
        induction n with
        | zero => simp [itr, cnt]
        | succ n ih =>
          rw [itr_succ, ih, Nat.zero_add]
          by_cases h1 : hR.2 374 (43 + 9 * a + 5) = -1
          · simp [h1]
          · rw [if_neg h1, if_neg h1]
            show _ = s + (cnt _ n + _)
            by_cases h2 : hR.2 374 (43 + 9 * a + 5) = hR.2 374 (43 + 9 * n + 5)
            · rw [if_pos ⟨h1, h2⟩, if_pos (decide_eq_true h2)]; omega
            · rw [if_neg (fun q => h2 q.2), if_neg (by simp only [decide_eq_true_eq]; exact h2)]; omega
      exact gen a
    rw [← tw_eq (fun c hc => (okc c hc).2.2.2.2.2.1), ← itr_nsum, uR_twins, ggR_twins_0]
    have l : ∀ k c (s : Nat) (v : Value), c + k = N → am_go (am_cl (d + 119)) qR_twins 1 [.ref 373, .int (Int32.ofNat s), .int (Int32.ofNat c), v] [] (am_up hR 373 0 (Int32.ofNat 0)) = some (.inl (some ((Int32.ofNat (itr (fun a b => b + (if hR.2 374 (43 + 9 * a + 5) = -1 then 0 else cnt (fun b => decide (hR.2 374 (43 + 9 * a + 5) = hR.2 374 (43 + 9 * b + 5))) a)) k c s)))), am_up hR 373 0 (Int32.ofNat 0)) := by
      intro k
      induction k with
      | zero =>
        intro c s v hc
        have hc : c = N := by omega
        subst hc
        rw [ggR_twins_1]
        simp -implicitDefEqProofs (disch := (first | omega | assumption | exact am_isS_3 | exact am_isS_25 | exact am_isX_356 | exact am_isX_359)) only [ggR_twins_0, ggR_twins_2, ggR_twins_4, ggR_twins_5, ggR_twins_6, ggR_twins_7, ggR_twins_8, ggR_twins_9, ggR_twins_10, ccR_twins_1_1, ccR_twins_4_1, ccR_twins_5_2, ccR_twins_5_1, rR_children, up_o, r3, itr, am_kI_x, am_kV_x, am_kI_i, am_nI_i, am_kV_i, am_nV_i, ↓reduceIte, eq_self, if_true, if_false, c_in, c_tn, pn_add, pn_mul, pn_subc, pn_addm, c_le_t, c_le_f, c_lt_t, c_lt_f, c_eq_f, c_eqm, bi_z, bi_1, bi_b, bi_T, bi_F, ite_not, up_eq, up_ne, or_self, or_true, true_or, or_false, false_or, and_true, true_and, and_self, not_true_eq_false, not_false_eq_true, Bool.false_eq_true]
      | succ k ih =>
        intro c s v hc
        have ih := ih (c + 1) (s + (if hR.2 374 (43 + 9 * c + 5) = -1 then 0 else cnt (fun b => decide (hR.2 374 (43 + 9 * c + 5) = hR.2 374 (43 + 9 * b + 5))) c)) (.int (Int32.ofNat c)) (by omega)
        have i2 := inner c (by omega) c 0 s (by omega)
        rw [icnt] at i2
        rw [ggR_twins_1]
        simp -implicitDefEqProofs (disch := (first | omega | assumption | exact am_isS_3 | exact am_isS_25 | exact am_isX_356 | exact am_isX_359)) only [ggR_twins_0, ggR_twins_2, ggR_twins_4, ggR_twins_5, ggR_twins_6, ggR_twins_7, ggR_twins_8, ggR_twins_9, ggR_twins_10, ccR_twins_1_1, ccR_twins_4_1, ccR_twins_5_2, ccR_twins_5_1, rR_children, up_o, r3, am_kI_x, am_kV_x, am_kI_i, am_nI_i, am_kV_i, am_nV_i, ↓reduceIte, eq_self, if_true, if_false, c_in, c_tn, pn_add, pn_mul, pn_subc, pn_addm, c_le_t, c_le_f, c_lt_t, c_lt_f, c_eq_f, c_eqm, bi_z, bi_1, bi_b, bi_T, bi_F, ite_not, up_eq, up_ne, or_self, or_true, true_or, or_false, false_or, and_true, true_and, and_self, not_true_eq_false, not_false_eq_true, Bool.false_eq_true]
        rw [i2]
        exact ih
    exact l N 0 0 .null (by omega)
