/-! a call of the law's script -/
theorem i64_32 (x : Int32) : x.toInt64.toInt32 = x := Int32.toInt32_toInt64 x
theorem lg_rf (x : Int64) : lg_cmp x x = (Int32.ofNat 0) := by unfold lg_cmp; simp
theorem sl_of {h : am_H} {L : Nat} (e : h.2 392 0 = (Int32.ofNat L)) (hL : L ≤ 3072) : am_sl h = L := by unfold am_sl; rw [e]; exact pn_tn (by omega)
def LawStep (d b i : Nat) (h : am_H) : Prop := ∀ x5 x6, ∃ h2 y5 y6, am_go (am_cl (d + 121)) qW_law_ b [.ref 391, .ref 0, .ref 373, .ref 389, .int (Int32.ofNat i), x5, x6] [] h = am_go (am_cl (d + 121)) qW_law_ 273 [.ref 391, .ref 0, .ref 373, .ref 389, .int (Int32.ofNat i), y5, y6] [] h2 ∧ J2 h2 h2 ∧ h2.2 391 = h.2 391 ∧ h2.2 392 = h.2 392 ∧ h2.1 ≤ h.1 + 1
theorem sdF0 (l : List Int32) : ∀ v ∈ (Value.ref 0 :: l.map Value.int), am_pv (fun o => am_sdF o = true) v := by
  intro v hv
  rcases List.mem_cons.mp hv with rfl | hv
  · show am_sdF 0 = true
    rfl
  · obtain ⟨x, -, rfl⟩ := List.mem_map.mp hv
    trivial
theorem sdR0 (l : List Int32) : ∀ v ∈ (Value.ref 373 :: l.map Value.int), am_pv (fun o => am_sdR o = true) v := by
  intro v hv
  rcases List.mem_cons.mp hv with rfl | hv
  · show am_sdR 373 = true
    rfl
  · obtain ⟨x, -, rfl⟩ := List.mem_map.mp hv
    trivial
theorem cf_nz : ∀ {t : List (Nat × Int32)}, (∀ p ∈ t, p.2 ≠ (Int32.ofNat 0)) → ∀ {e x}, am_cf t e = some x → x ≠ (Int32.ofNat 0)
  | [], _, _, _, h => by cases h
  | (a, v) :: r, ht, e, x, h => by
    unfold am_cf at h
    split at h
    · cases h
      exact ht (a, v) (List.mem_cons_self ..)
    · exact cf_nz (fun p hp => ht p (List.mem_cons_of_mem _ hp)) h
theorem thr_S (d : Nat) (h : am_H) : am_cl (d + 121) qR_thrown [.ref 373] h = some (.inl (some (h.2 373 0)), h) := by
  simp -implicitDefEqProofs (disch := (first | omega | assumption | exact am_isS_3 | exact am_isS_25 | exact am_isX_356 | exact am_isX_359)) only [uR_thrown, ggR_thrown_0, am_kI_x, am_kV_x, am_kI_i, am_nI_i, am_kV_i, am_nV_i, ↓reduceIte, eq_self, if_true, if_false, c_in, c_tn, pn_add, pn_mul, pn_subc, pn_addm, c_le_t, c_le_f, c_lt_t, c_lt_f, c_eq_f, c_eqm, bi_z, bi_1, bi_b, bi_T, bi_F, ite_not, up_eq, up_ne, or_self, or_true, true_or, or_false, false_or, and_true, true_and, and_self, not_true_eq_false, not_false_eq_true, Bool.false_eq_true]
theorem ansS {qF qR : Nat} {aF aR : List Value} (d : Nat) (H : Ans qF aF qR aR) (sF : ∀ v ∈ aF, am_pv (fun o => am_sdF o = true) v) (sR : ∀ v ∈ aR, am_pv (fun o => am_sdR o = true) v) {h : am_H} (K : J2 h h) : ∃ v h1 h2, am_cl (d + 121) qF aF h = some (.inl (some (v)), h1) ∧ am_cl (d + 121) qR aR h1 = some (.inl (some (v)), h2) ∧ J2 h2 h2 ∧ h1.2 391 = h.2 391 ∧ h1.2 392 = h.2 392 ∧ h2.2 391 = h.2 391 ∧ h2.2 392 = h.2 392 ∧ h2.1 ≤ h.1 + 1 := by
  have H2 : Two qF aF qR aR [] := H.two
  obtain ⟨h1, k, c⟩ := two_one H2 sF sR K (d + 1)
  rcases c with ⟨v, c1, c2⟩ | ⟨e, t, c1, c2, c3⟩
  · obtain ⟨h2, d1, d2, d3, d4, d5⟩ := c2 (h1.2 389 0)
    rw [up_self rfl] at d1 d5
    refine ⟨v, h1, h2, c1, d1, d3, k 391 (by omega) (by omega), k 392 (by omega) (by omega), ?_, ?_, by omega⟩
    · rw [d5 391 (by omega) (by omega), k 391 (by omega) (by omega)]
    · rw [d5 392 (by omega) (by omega), k 392 (by omega) (by omega)]
  · cases c2
theorem twoS {qF qR qW : Nat} {aF aR aW : List Value} {tab : List (Nat × Int32)} (d : Nat) (g : Int32 → Int32) (H : Two qF aF qR aR tab) (sF : ∀ v ∈ aF, am_pv (fun o => am_sdF o = true) v) (sR : ∀ v ∈ aR, am_pv (fun o => am_sdR o = true) v) (tz : ∀ p ∈ tab, p.2 ≠ (Int32.ofNat 0)) (W : ∀ h, am_cl (d + 121) qW aW h = am_cI tab (am_cl (d + 120) qF aF h) (fun r h1 => some (.inl (some ((Int32.ofNat 0))), am_up h1 389 0 (g r)))) {h : am_H} (K : J2 h h) : ∃ r v h1 h2, am_cl (d + 121) qW aW h = some (.inl (some (r)), h1) ∧ am_cl (d + 121) qR aR h1 = some (.inl (some (v)), h2) ∧ am_cl (d + 121) qR_thrown [.ref 373] h2 = some (.inl (some (r)), h2) ∧ (r = (Int32.ofNat 0) → h2.2 389 0 = g v) ∧ J2 h2 h2 ∧ h1.2 391 = h.2 391 ∧ h1.2 392 = h.2 392 ∧ h2.2 391 = h.2 391 ∧ h2.2 392 = h.2 392 ∧ h2.1 ≤ h.1 + 1 := by
  obtain ⟨h1, k, c⟩ := two_one H sF sR K d
  have k1 := k 391 (by omega) (by omega)
  have k2 := k 392 (by omega) (by omega)
  rcases c with ⟨v, c1, c2⟩ | ⟨e, t, c1, c2, c3⟩
  · obtain ⟨h2, d1, d2, d3, d4, d5⟩ := c2 (g v)
    have u1 : (am_up h1 389 0 (g v)).2 391 = h.2 391 := by rw [up_o (by omega)]; exact k1
    have u2 : (am_up h1 389 0 (g v)).2 392 = h.2 392 := by rw [up_o (by omega)]; exact k2
    refine ⟨(Int32.ofNat 0), v, am_up h1 389 0 (g v), h2, ?_, am_cl_up _ d1, ?_, fun _ => ?_, d3, u1, u2, ?_, ?_, by omega⟩
    · rw [W, c1]
      rfl
    · rw [thr_S, d2]
    · rw [d5 389 (by omega) (by omega)]
      exact up_eq rfl rfl
    · rw [d5 391 (by omega) (by omega), u1]
    · rw [d5 392 (by omega) (by omega), u2]
  · obtain ⟨v, h2, d1, d2, d3, d4, d5⟩ := c3 (h1.2 389 0)
    rw [up_self rfl] at d1 d5
    have tn := cf_nz tz c2
    refine ⟨t, v, h1, h2, ?_, am_cl_up _ d1, ?_, fun q => absurd q tn, d3, k1, k2, ?_, ?_, by omega⟩
    · rw [W, c1]
      show (match am_cf tab e with | some v => some (Sum.inl (some v), h1) | none => none) = _
      rw [c2]
    · rw [thr_S, d2]
    · rw [d5 391 (by omega) (by omega), k1]
    · rw [d5 392 (by omega) (by omega), k2]
theorem i64_00 : (0 : Int64).toInt32.toInt64 = (0 : Int64) := by decide +kernel
theorem i64_01 : (1 : Int64).toInt32.toInt64 = (1 : Int64) := by decide +kernel
theorem lg_00 : lg_cmp (0 : Int64).toInt32.toInt64 (0 : Int64) = (Int32.ofNat 0) := by decide +kernel
theorem lg_11 : lg_cmp (1 : Int64).toInt32.toInt64 (1 : Int64) = (Int32.ofNat 0) := by decide +kernel
theorem kd389 : am_kd 389 = 23 := rfl
theorem ln389 : am_ln 389 = 1 := rfl
def sw01 (x : Int32) : Int32 := if x = (Int32.ofNat 0) then (0 : Int64).toInt32 else (1 : Int64).toInt32
theorem wd_parish (d : Nat) : ∀ h, am_cl (d + 121) qW_parish [.ref 0, .ref 389] h = am_cI (am_ctt 0) (am_cl (d + 120) qF_parish [.ref 0] h) (fun r h1 => some (.inl (some ((Int32.ofNat 0))), am_up h1 389 0 ((fun r => r) r))) := by
  intro h
  rw [uW_parish, ggW_parish_0]
  refine congrArg (am_cI _ _) (funext fun r => funext fun h1 => ?_)
  simp -implicitDefEqProofs (disch := (first | omega | assumption | exact am_isS_3 | exact am_isS_25 | exact am_isX_356 | exact am_isX_359)) only [ggW_parish_0, ggW_parish_1, ccW_parish_0_1, i64_32, am_kI_x, am_kV_x, am_kI_i, am_nI_i, am_kV_i, am_nV_i, ↓reduceIte, eq_self, if_true, if_false, c_in, c_tn, pn_add, pn_mul, pn_subc, pn_addm, c_le_t, c_le_f, c_lt_t, c_lt_f, c_eq_f, c_eqm, bi_z, bi_1, bi_b, bi_T, bi_F, ite_not, up_eq, up_ne, or_self, or_true, true_or, or_false, false_or, and_true, true_and, and_self, not_true_eq_false, not_false_eq_true, Bool.false_eq_true]
theorem wd_law (d : Nat) : ∀ h, am_cl (d + 121) qW_law [.ref 0, .ref 389] h = am_cI (am_ctt 1) (am_cl (d + 120) qF_law [.ref 0] h) (fun r h1 => some (.inl (some ((Int32.ofNat 0))), am_up h1 389 0 ((fun r => r) r))) := by
  intro h
  rw [uW_law, ggW_law_0]
  refine congrArg (am_cI _ _) (funext fun r => funext fun h1 => ?_)
  simp -implicitDefEqProofs (disch := (first | omega | assumption | exact am_isS_3 | exact am_isS_25 | exact am_isX_356 | exact am_isX_359)) only [ggW_law_0, ggW_law_1, ccW_law_0_1, i64_32, am_kI_x, am_kV_x, am_kI_i, am_nI_i, am_kV_i, am_nV_i, ↓reduceIte, eq_self, if_true, if_false, c_in, c_tn, pn_add, pn_mul, pn_subc, pn_addm, c_le_t, c_le_f, c_lt_t, c_lt_f, c_eq_f, c_eqm, bi_z, bi_1, bi_b, bi_T, bi_F, ite_not, up_eq, up_ne, or_self, or_true, true_or, or_false, false_or, and_true, true_and, and_self, not_true_eq_false, not_false_eq_true, Bool.false_eq_true]
theorem wd_thing (d : Nat) (x y : Int32) : ∀ h, am_cl (d + 121) qW_thing [.ref 0, .int x, .int y, .ref 389] h = am_cI (am_ctt 2) (am_cl (d + 120) qF_thing [.ref 0, .int x, .int y] h) (fun r h1 => some (.inl (some ((Int32.ofNat 0))), am_up h1 389 0 ((fun r => r) r))) := by
  intro h
  rw [uW_thing, ggW_thing_0]
  refine congrArg (am_cI _ _) (funext fun r => funext fun h1 => ?_)
  simp -implicitDefEqProofs (disch := (first | omega | assumption | exact am_isS_3 | exact am_isS_25 | exact am_isX_356 | exact am_isX_359)) only [ggW_thing_0, ggW_thing_1, ccW_thing_0_1, i64_32, am_kI_x, am_kV_x, am_kI_i, am_nI_i, am_kV_i, am_nV_i, ↓reduceIte, eq_self, if_true, if_false, c_in, c_tn, pn_add, pn_mul, pn_subc, pn_addm, c_le_t, c_le_f, c_lt_t, c_lt_f, c_eq_f, c_eqm, bi_z, bi_1, bi_b, bi_T, bi_F, ite_not, up_eq, up_ne, or_self, or_true, true_or, or_false, false_or, and_true, true_and, and_self, not_true_eq_false, not_false_eq_true, Bool.false_eq_true]
theorem wd_child (d : Nat) (x y : Int32) : ∀ h, am_cl (d + 121) qW_child [.ref 0, .int x, .int y, .ref 389] h = am_cI (am_ctt 3) (am_cl (d + 120) qF_child [.ref 0, .int x, .int y] h) (fun r h1 => some (.inl (some ((Int32.ofNat 0))), am_up h1 389 0 ((fun r => r) r))) := by
  intro h
  rw [uW_child, ggW_child_0]
  refine congrArg (am_cI _ _) (funext fun r => funext fun h1 => ?_)
  simp -implicitDefEqProofs (disch := (first | omega | assumption | exact am_isS_3 | exact am_isS_25 | exact am_isX_356 | exact am_isX_359)) only [ggW_child_0, ggW_child_1, ccW_child_0_1, i64_32, am_kI_x, am_kV_x, am_kI_i, am_nI_i, am_kV_i, am_nV_i, ↓reduceIte, eq_self, if_true, if_false, c_in, c_tn, pn_add, pn_mul, pn_subc, pn_addm, c_le_t, c_le_f, c_lt_t, c_lt_f, c_eq_f, c_eqm, bi_z, bi_1, bi_b, bi_T, bi_F, ite_not, up_eq, up_ne, or_self, or_true, true_or, or_false, false_or, and_true, true_and, and_self, not_true_eq_false, not_false_eq_true, Bool.false_eq_true]
theorem wd_months (d : Nat) (x : Int32) : ∀ h, am_cl (d + 121) qW_months [.ref 0, .int x, .ref 389] h = am_cI (am_ctt 4) (am_cl (d + 120) qF_months [.ref 0, .int x] h) (fun r h1 => some (.inl (some ((Int32.ofNat 0))), am_up h1 389 0 ((fun r => r) r))) := by
  intro h
  rw [uW_months, ggW_months_0]
  refine congrArg (am_cI _ _) (funext fun r => funext fun h1 => ?_)
  simp -implicitDefEqProofs (disch := (first | omega | assumption | exact am_isS_3 | exact am_isS_25 | exact am_isX_356 | exact am_isX_359)) only [ggW_months_0, ggW_months_1, ccW_months_0_1, i64_32, am_kI_x, am_kV_x, am_kI_i, am_nI_i, am_kV_i, am_nV_i, ↓reduceIte, eq_self, if_true, if_false, c_in, c_tn, pn_add, pn_mul, pn_subc, pn_addm, c_le_t, c_le_f, c_lt_t, c_lt_f, c_eq_f, c_eqm, bi_z, bi_1, bi_b, bi_T, bi_F, ite_not, up_eq, up_ne, or_self, or_true, true_or, or_false, false_or, and_true, true_and, and_self, not_true_eq_false, not_false_eq_true, Bool.false_eq_true]
theorem wd_birth (d : Nat) : ∀ h, am_cl (d + 121) qW_birth [.ref 0, .ref 389] h = am_cI (am_ctt 5) (am_cl (d + 120) qF_birth [.ref 0] h) (fun r h1 => some (.inl (some ((Int32.ofNat 0))), am_up h1 389 0 ((fun r => r) r))) := by
  intro h
  rw [uW_birth, ggW_birth_0]
  refine congrArg (am_cI _ _) (funext fun r => funext fun h1 => ?_)
  simp -implicitDefEqProofs (disch := (first | omega | assumption | exact am_isS_3 | exact am_isS_25 | exact am_isX_356 | exact am_isX_359)) only [ggW_birth_0, ggW_birth_1, ccW_birth_0_1, i64_32, am_kI_x, am_kV_x, am_kI_i, am_nI_i, am_kV_i, am_nV_i, ↓reduceIte, eq_self, if_true, if_false, c_in, c_tn, pn_add, pn_mul, pn_subc, pn_addm, c_le_t, c_le_f, c_lt_t, c_lt_f, c_eq_f, c_eqm, bi_z, bi_1, bi_b, bi_T, bi_F, ite_not, up_eq, up_ne, or_self, or_true, true_or, or_false, false_or, and_true, true_and, and_self, not_true_eq_false, not_false_eq_true, Bool.false_eq_true]
theorem wd_move (d : Nat) (x y : Int32) : ∀ h, am_cl (d + 121) qW_move [.ref 0, .int x, .int y, .ref 389] h = am_cI (am_ctt 6) (am_cl (d + 120) qF_move [.ref 0, .int x, .int y] h) (fun r h1 => some (.inl (some ((Int32.ofNat 0))), am_up h1 389 0 ((fun r => r) r))) := by
  intro h
  rw [uW_move, ggW_move_0]
  refine congrArg (am_cI _ _) (funext fun r => funext fun h1 => ?_)
  simp -implicitDefEqProofs (disch := (first | omega | assumption | exact am_isS_3 | exact am_isS_25 | exact am_isX_356 | exact am_isX_359)) only [ggW_move_0, ggW_move_1, ccW_move_0_1, i64_32, am_kI_x, am_kV_x, am_kI_i, am_nI_i, am_kV_i, am_nV_i, ↓reduceIte, eq_self, if_true, if_false, c_in, c_tn, pn_add, pn_mul, pn_subc, pn_addm, c_le_t, c_le_f, c_lt_t, c_lt_f, c_eq_f, c_eqm, bi_z, bi_1, bi_b, bi_T, bi_F, ite_not, up_eq, up_ne, or_self, or_true, true_or, or_false, false_or, and_true, true_and, and_self, not_true_eq_false, not_false_eq_true, Bool.false_eq_true]
theorem wd_blow (d : Nat) (x : Int32) : ∀ h, am_cl (d + 121) qW_blow [.ref 0, .int x, .ref 389] h = am_cI (am_ctt 7) (am_cl (d + 120) qF_blow [.ref 0, .int x] h) (fun r h1 => some (.inl (some ((Int32.ofNat 0))), am_up h1 389 0 ((fun r => r) r))) := by
  intro h
  rw [uW_blow, ggW_blow_0]
  refine congrArg (am_cI _ _) (funext fun r => funext fun h1 => ?_)
  simp -implicitDefEqProofs (disch := (first | omega | assumption | exact am_isS_3 | exact am_isS_25 | exact am_isX_356 | exact am_isX_359)) only [ggW_blow_0, ggW_blow_1, ccW_blow_0_1, i64_32, am_kI_x, am_kV_x, am_kI_i, am_nI_i, am_kV_i, am_nV_i, ↓reduceIte, eq_self, if_true, if_false, c_in, c_tn, pn_add, pn_mul, pn_subc, pn_addm, c_le_t, c_le_f, c_lt_t, c_lt_f, c_eq_f, c_eqm, bi_z, bi_1, bi_b, bi_T, bi_F, ite_not, up_eq, up_ne, or_self, or_true, true_or, or_false, false_or, and_true, true_and, and_self, not_true_eq_false, not_false_eq_true, Bool.false_eq_true]
theorem wd_wish (d : Nat) (x y : Int32) : ∀ h, am_cl (d + 121) qW_wish [.ref 0, .int x, .int y, .ref 389] h = am_cI (am_ctt 8) (am_cl (d + 120) qF_wish [.ref 0, .int x, .int y] h) (fun r h1 => some (.inl (some ((Int32.ofNat 0))), am_up h1 389 0 ((fun r => r) r))) := by
  intro h
  rw [uW_wish, ggW_wish_0]
  refine congrArg (am_cI _ _) (funext fun r => funext fun h1 => ?_)
  simp -implicitDefEqProofs (disch := (first | omega | assumption | exact am_isS_3 | exact am_isS_25 | exact am_isX_356 | exact am_isX_359)) only [ggW_wish_0, ggW_wish_1, ccW_wish_0_1, i64_32, am_kI_x, am_kV_x, am_kI_i, am_nI_i, am_kV_i, am_nV_i, ↓reduceIte, eq_self, if_true, if_false, c_in, c_tn, pn_add, pn_mul, pn_subc, pn_addm, c_le_t, c_le_f, c_lt_t, c_lt_f, c_eq_f, c_eqm, bi_z, bi_1, bi_b, bi_T, bi_F, ite_not, up_eq, up_ne, or_self, or_true, true_or, or_false, false_or, and_true, true_and, and_self, not_true_eq_false, not_false_eq_true, Bool.false_eq_true]
theorem wd_grip (d : Nat) (x y : Int32) : ∀ h, am_cl (d + 121) qW_grip [.ref 0, .int x, .int y, .ref 389] h = am_cI (am_ctt 9) (am_cl (d + 120) qF_grip [.ref 0, .int x, .int y] h) (fun r h1 => some (.inl (some ((Int32.ofNat 0))), am_up h1 389 0 ((fun r => r) r))) := by
  intro h
  rw [uW_grip, ggW_grip_0]
  refine congrArg (am_cI _ _) (funext fun r => funext fun h1 => ?_)
  simp -implicitDefEqProofs (disch := (first | omega | assumption | exact am_isS_3 | exact am_isS_25 | exact am_isX_356 | exact am_isX_359)) only [ggW_grip_0, ggW_grip_1, ccW_grip_0_1, i64_32, am_kI_x, am_kV_x, am_kI_i, am_nI_i, am_kV_i, am_nV_i, ↓reduceIte, eq_self, if_true, if_false, c_in, c_tn, pn_add, pn_mul, pn_subc, pn_addm, c_le_t, c_le_f, c_lt_t, c_lt_f, c_eq_f, c_eqm, bi_z, bi_1, bi_b, bi_T, bi_F, ite_not, up_eq, up_ne, or_self, or_true, true_or, or_false, false_or, and_true, true_and, and_self, not_true_eq_false, not_false_eq_true, Bool.false_eq_true]
theorem wd_change (d : Nat) (x y : Int32) : ∀ h, am_cl (d + 121) qW_change [.ref 0, .int x, .int y, .ref 389] h = am_cI (am_ctt 10) (am_cl (d + 120) qF_change [.ref 0, .int x, .int y] h) (fun r h1 => some (.inl (some ((Int32.ofNat 0))), am_up h1 389 0 ((fun r => r) r))) := by
  intro h
  rw [uW_change, ggW_change_0]
  refine congrArg (am_cI _ _) (funext fun r => funext fun h1 => ?_)
  simp -implicitDefEqProofs (disch := (first | omega | assumption | exact am_isS_3 | exact am_isS_25 | exact am_isX_356 | exact am_isX_359)) only [ggW_change_0, ggW_change_1, ccW_change_0_1, i64_32, am_kI_x, am_kV_x, am_kI_i, am_nI_i, am_kV_i, am_nV_i, ↓reduceIte, eq_self, if_true, if_false, c_in, c_tn, pn_add, pn_mul, pn_subc, pn_addm, c_le_t, c_le_f, c_lt_t, c_lt_f, c_eq_f, c_eqm, bi_z, bi_1, bi_b, bi_T, bi_F, ite_not, up_eq, up_ne, or_self, or_true, true_or, or_false, false_or, and_true, true_and, and_self, not_true_eq_false, not_false_eq_true, Bool.false_eq_true]
theorem wd_cut (d : Nat) (x : Int32) : ∀ h, am_cl (d + 121) qW_cut [.ref 0, .int x, .ref 389] h = am_cI (am_ctt 11) (am_cl (d + 120) qF_cut [.ref 0, .int x] h) (fun r h1 => some (.inl (some ((Int32.ofNat 0))), am_up h1 389 0 ((fun r => r) r))) := by
  intro h
  rw [uW_cut, ggW_cut_0]
  refine congrArg (am_cI _ _) (funext fun r => funext fun h1 => ?_)
  simp -implicitDefEqProofs (disch := (first | omega | assumption | exact am_isS_3 | exact am_isS_25 | exact am_isX_356 | exact am_isX_359)) only [ggW_cut_0, ggW_cut_1, ccW_cut_0_1, i64_32, am_kI_x, am_kV_x, am_kI_i, am_nI_i, am_kV_i, am_nV_i, ↓reduceIte, eq_self, if_true, if_false, c_in, c_tn, pn_add, pn_mul, pn_subc, pn_addm, c_le_t, c_le_f, c_lt_t, c_lt_f, c_eq_f, c_eqm, bi_z, bi_1, bi_b, bi_T, bi_F, ite_not, up_eq, up_ne, or_self, or_true, true_or, or_false, false_or, and_true, true_and, and_self, not_true_eq_false, not_false_eq_true, Bool.false_eq_true]
theorem wd_moves (d : Nat) (x : Int32) : ∀ h, am_cl (d + 121) qW_moves [.ref 0, .int x, .ref 389] h = am_cI (am_ctt 12) (am_cl (d + 120) qF_moves [.ref 0, .int x] h) (fun r h1 => some (.inl (some ((Int32.ofNat 0))), am_up h1 389 0 ((fun r => r) r))) := by
  intro h
  rw [uW_moves, ggW_moves_0]
  refine congrArg (am_cI _ _) (funext fun r => funext fun h1 => ?_)
  simp -implicitDefEqProofs (disch := (first | omega | assumption | exact am_isS_3 | exact am_isS_25 | exact am_isX_356 | exact am_isX_359)) only [ggW_moves_0, ggW_moves_1, ccW_moves_0_1, i64_32, am_kI_x, am_kV_x, am_kI_i, am_nI_i, am_kV_i, am_nV_i, ↓reduceIte, eq_self, if_true, if_false, c_in, c_tn, pn_add, pn_mul, pn_subc, pn_addm, c_le_t, c_le_f, c_lt_t, c_lt_f, c_eq_f, c_eqm, bi_z, bi_1, bi_b, bi_T, bi_F, ite_not, up_eq, up_ne, or_self, or_true, true_or, or_false, false_or, and_true, true_and, and_self, not_true_eq_false, not_false_eq_true, Bool.false_eq_true]
theorem wd_first (d : Nat) (x : Int32) : ∀ h, am_cl (d + 121) qW_first [.ref 0, .int x, .ref 389] h = am_cI (am_ctt 13) (am_cl (d + 120) qF_first [.ref 0, .int x] h) (fun r h1 => some (.inl (some ((Int32.ofNat 0))), am_up h1 389 0 ((fun r => r) r))) := by
  intro h
  rw [uW_first, ggW_first_0]
  refine congrArg (am_cI _ _) (funext fun r => funext fun h1 => ?_)
  simp -implicitDefEqProofs (disch := (first | omega | assumption | exact am_isS_3 | exact am_isS_25 | exact am_isX_356 | exact am_isX_359)) only [ggW_first_0, ggW_first_1, ccW_first_0_1, i64_32, am_kI_x, am_kV_x, am_kI_i, am_nI_i, am_kV_i, am_nV_i, ↓reduceIte, eq_self, if_true, if_false, c_in, c_tn, pn_add, pn_mul, pn_subc, pn_addm, c_le_t, c_le_f, c_lt_t, c_lt_f, c_eq_f, c_eqm, bi_z, bi_1, bi_b, bi_T, bi_F, ite_not, up_eq, up_ne, or_self, or_true, true_or, or_false, false_or, and_true, true_and, and_self, not_true_eq_false, not_false_eq_true, Bool.false_eq_true]
theorem wd_can (d : Nat) (x : Int32) : ∀ h, am_cl (d + 121) qW_can [.ref 0, .int x, .ref 389] h = am_cI (am_ctt 14) (am_cl (d + 120) qF_can [.ref 0, .int x] h) (fun r h1 => some (.inl (some ((Int32.ofNat 0))), am_up h1 389 0 ((fun r => r) r))) := by
  intro h
  rw [uW_can, ggW_can_0]
  refine congrArg (am_cI _ _) (funext fun r => funext fun h1 => ?_)
  simp -implicitDefEqProofs (disch := (first | omega | assumption | exact am_isS_3 | exact am_isS_25 | exact am_isX_356 | exact am_isX_359)) only [ggW_can_0, ggW_can_1, ccW_can_0_1, i64_32, am_kI_x, am_kV_x, am_kI_i, am_nI_i, am_kV_i, am_nV_i, ↓reduceIte, eq_self, if_true, if_false, c_in, c_tn, pn_add, pn_mul, pn_subc, pn_addm, c_le_t, c_le_f, c_lt_t, c_lt_f, c_eq_f, c_eqm, bi_z, bi_1, bi_b, bi_T, bi_F, ite_not, up_eq, up_ne, or_self, or_true, true_or, or_false, false_or, and_true, true_and, and_self, not_true_eq_false, not_false_eq_true, Bool.false_eq_true]
theorem wd_feels (d : Nat) (x : Int32) : ∀ h, am_cl (d + 121) qW_feels [.ref 0, .int x, .ref 389] h = am_cI (am_ctt 15) (am_cl (d + 120) qF_feels [.ref 0, .int x] h) (fun r h1 => some (.inl (some ((Int32.ofNat 0))), am_up h1 389 0 ((fun r => r) r))) := by
  intro h
  rw [uW_feels, ggW_feels_0]
  refine congrArg (am_cI _ _) (funext fun r => funext fun h1 => ?_)
  simp -implicitDefEqProofs (disch := (first | omega | assumption | exact am_isS_3 | exact am_isS_25 | exact am_isX_356 | exact am_isX_359)) only [ggW_feels_0, ggW_feels_1, ccW_feels_0_1, i64_32, am_kI_x, am_kV_x, am_kI_i, am_nI_i, am_kV_i, am_nV_i, ↓reduceIte, eq_self, if_true, if_false, c_in, c_tn, pn_add, pn_mul, pn_subc, pn_addm, c_le_t, c_le_f, c_lt_t, c_lt_f, c_eq_f, c_eqm, bi_z, bi_1, bi_b, bi_T, bi_F, ite_not, up_eq, up_ne, or_self, or_true, true_or, or_false, false_or, and_true, true_and, and_self, not_true_eq_false, not_false_eq_true, Bool.false_eq_true]
theorem wd_odds (d : Nat) (x : Int32) : ∀ h, am_cl (d + 121) qW_odds [.ref 0, .int x, .ref 389] h = am_cI (am_ctt 16) (am_cl (d + 120) qF_odds [.ref 0, .int x] h) (fun r h1 => some (.inl (some ((Int32.ofNat 0))), am_up h1 389 0 ((fun r => r) r))) := by
  intro h
  rw [uW_odds, ggW_odds_0]
  refine congrArg (am_cI _ _) (funext fun r => funext fun h1 => ?_)
  simp -implicitDefEqProofs (disch := (first | omega | assumption | exact am_isS_3 | exact am_isS_25 | exact am_isX_356 | exact am_isX_359)) only [ggW_odds_0, ggW_odds_1, ccW_odds_0_1, i64_32, am_kI_x, am_kV_x, am_kI_i, am_nI_i, am_kV_i, am_nV_i, ↓reduceIte, eq_self, if_true, if_false, c_in, c_tn, pn_add, pn_mul, pn_subc, pn_addm, c_le_t, c_le_f, c_lt_t, c_lt_f, c_eq_f, c_eqm, bi_z, bi_1, bi_b, bi_T, bi_F, ite_not, up_eq, up_ne, or_self, or_true, true_or, or_false, false_or, and_true, true_and, and_self, not_true_eq_false, not_false_eq_true, Bool.false_eq_true]
theorem wd_ask (d : Nat) : ∀ h, am_cl (d + 121) qW_ask [.ref 0, .ref 389] h = am_cI (am_ctt 17) (am_cl (d + 120) qF_ask [.ref 0] h) (fun r h1 => some (.inl (some ((Int32.ofNat 0))), am_up h1 389 0 ((fun r => r) r))) := by
  intro h
  rw [uW_ask, ggW_ask_0]
  refine congrArg (am_cI _ _) (funext fun r => funext fun h1 => ?_)
  simp -implicitDefEqProofs (disch := (first | omega | assumption | exact am_isS_3 | exact am_isS_25 | exact am_isX_356 | exact am_isX_359)) only [ggW_ask_0, ggW_ask_1, ccW_ask_0_1, i64_32, am_kI_x, am_kV_x, am_kI_i, am_nI_i, am_kV_i, am_nV_i, ↓reduceIte, eq_self, if_true, if_false, c_in, c_tn, pn_add, pn_mul, pn_subc, pn_addm, c_le_t, c_le_f, c_lt_t, c_lt_f, c_eq_f, c_eqm, bi_z, bi_1, bi_b, bi_T, bi_F, ite_not, up_eq, up_ne, or_self, or_true, true_or, or_false, false_or, and_true, true_and, and_self, not_true_eq_false, not_false_eq_true, Bool.false_eq_true]
theorem wd_waits (d : Nat) (x : Int32) : ∀ h, am_cl (d + 121) qW_waits [.ref 0, .int x, .ref 389] h = am_cI (am_ctt 18) (am_cl (d + 120) qF_waits [.ref 0, .int x] h) (fun r h1 => some (.inl (some ((Int32.ofNat 0))), am_up h1 389 0 ((fun r => r) r))) := by
  intro h
  rw [uW_waits, ggW_waits_0]
  refine congrArg (am_cI _ _) (funext fun r => funext fun h1 => ?_)
  simp -implicitDefEqProofs (disch := (first | omega | assumption | exact am_isS_3 | exact am_isS_25 | exact am_isX_356 | exact am_isX_359)) only [ggW_waits_0, ggW_waits_1, ccW_waits_0_1, i64_32, am_kI_x, am_kV_x, am_kI_i, am_nI_i, am_kV_i, am_nV_i, ↓reduceIte, eq_self, if_true, if_false, c_in, c_tn, pn_add, pn_mul, pn_subc, pn_addm, c_le_t, c_le_f, c_lt_t, c_lt_f, c_eq_f, c_eqm, bi_z, bi_1, bi_b, bi_T, bi_F, ite_not, up_eq, up_ne, or_self, or_true, true_or, or_false, false_or, and_true, true_and, and_self, not_true_eq_false, not_false_eq_true, Bool.false_eq_true]
theorem wd_keep (d : Nat) (x : Int32) : ∀ h, am_cl (d + 121) qW_keep [.ref 0, .int x, .ref 389] h = am_cI (am_ctt 19) (am_cl (d + 120) qF_keep [.ref 0, .int x] h) (fun r h1 => some (.inl (some ((Int32.ofNat 0))), am_up h1 389 0 ((fun r => r) r))) := by
  intro h
  rw [uW_keep, ggW_keep_0]
  refine congrArg (am_cI _ _) (funext fun r => funext fun h1 => ?_)
  simp -implicitDefEqProofs (disch := (first | omega | assumption | exact am_isS_3 | exact am_isS_25 | exact am_isX_356 | exact am_isX_359)) only [ggW_keep_0, ggW_keep_1, ccW_keep_0_1, i64_32, am_kI_x, am_kV_x, am_kI_i, am_nI_i, am_kV_i, am_nV_i, ↓reduceIte, eq_self, if_true, if_false, c_in, c_tn, pn_add, pn_mul, pn_subc, pn_addm, c_le_t, c_le_f, c_lt_t, c_lt_f, c_eq_f, c_eqm, bi_z, bi_1, bi_b, bi_T, bi_F, ite_not, up_eq, up_ne, or_self, or_true, true_or, or_false, false_or, and_true, true_and, and_self, not_true_eq_false, not_false_eq_true, Bool.false_eq_true]
theorem wd_fates (d : Nat) (x : Int32) : ∀ h, am_cl (d + 121) qW_fates [.ref 0, .int x, .ref 389] h = am_cI (am_ctt 20) (am_cl (d + 120) qF_fates [.ref 0, .int x] h) (fun r h1 => some (.inl (some ((Int32.ofNat 0))), am_up h1 389 0 ((fun r => r) r))) := by
  intro h
  rw [uW_fates, ggW_fates_0]
  refine congrArg (am_cI _ _) (funext fun r => funext fun h1 => ?_)
  simp -implicitDefEqProofs (disch := (first | omega | assumption | exact am_isS_3 | exact am_isS_25 | exact am_isX_356 | exact am_isX_359)) only [ggW_fates_0, ggW_fates_1, ccW_fates_0_1, i64_32, am_kI_x, am_kV_x, am_kI_i, am_nI_i, am_kV_i, am_nV_i, ↓reduceIte, eq_self, if_true, if_false, c_in, c_tn, pn_add, pn_mul, pn_subc, pn_addm, c_le_t, c_le_f, c_lt_t, c_lt_f, c_eq_f, c_eqm, bi_z, bi_1, bi_b, bi_T, bi_F, ite_not, up_eq, up_ne, or_self, or_true, true_or, or_false, false_or, and_true, true_and, and_self, not_true_eq_false, not_false_eq_true, Bool.false_eq_true]
theorem wd_gives (d : Nat) (x : Int32) : ∀ h, am_cl (d + 121) qW_gives [.ref 0, .int x, .ref 389] h = am_cI (am_ctt 21) (am_cl (d + 120) qF_gives [.ref 0, .int x] h) (fun r h1 => some (.inl (some ((Int32.ofNat 0))), am_up h1 389 0 ((fun r => r) r))) := by
  intro h
  rw [uW_gives, ggW_gives_0]
  refine congrArg (am_cI _ _) (funext fun r => funext fun h1 => ?_)
  simp -implicitDefEqProofs (disch := (first | omega | assumption | exact am_isS_3 | exact am_isS_25 | exact am_isX_356 | exact am_isX_359)) only [ggW_gives_0, ggW_gives_1, ccW_gives_0_1, i64_32, am_kI_x, am_kV_x, am_kI_i, am_nI_i, am_kV_i, am_nV_i, ↓reduceIte, eq_self, if_true, if_false, c_in, c_tn, pn_add, pn_mul, pn_subc, pn_addm, c_le_t, c_le_f, c_lt_t, c_lt_f, c_eq_f, c_eqm, bi_z, bi_1, bi_b, bi_T, bi_F, ite_not, up_eq, up_ne, or_self, or_true, true_or, or_false, false_or, and_true, true_and, and_self, not_true_eq_false, not_false_eq_true, Bool.false_eq_true]
theorem wd_trade (d : Nat) (x : Int32) : ∀ h, am_cl (d + 121) qW_trade [.ref 0, .int x, .ref 389] h = am_cI (am_ctt 22) (am_cl (d + 120) qF_trade [.ref 0, .int x] h) (fun r h1 => some (.inl (some ((Int32.ofNat 0))), am_up h1 389 0 ((fun r => r) r))) := by
  intro h
  rw [uW_trade, ggW_trade_0]
  refine congrArg (am_cI _ _) (funext fun r => funext fun h1 => ?_)
  simp -implicitDefEqProofs (disch := (first | omega | assumption | exact am_isS_3 | exact am_isS_25 | exact am_isX_356 | exact am_isX_359)) only [ggW_trade_0, ggW_trade_1, ccW_trade_0_1, i64_32, am_kI_x, am_kV_x, am_kI_i, am_nI_i, am_kV_i, am_nV_i, ↓reduceIte, eq_self, if_true, if_false, c_in, c_tn, pn_add, pn_mul, pn_subc, pn_addm, c_le_t, c_le_f, c_lt_t, c_lt_f, c_eq_f, c_eqm, bi_z, bi_1, bi_b, bi_T, bi_F, ite_not, up_eq, up_ne, or_self, or_true, true_or, or_false, false_or, and_true, true_and, and_self, not_true_eq_false, not_false_eq_true, Bool.false_eq_true]
theorem wd_ring (d : Nat) (x : Int32) : ∀ h, am_cl (d + 121) qW_ring [.ref 0, .int x, .ref 389] h = am_cI (am_ctt 23) (am_cl (d + 120) qF_ring [.ref 0, .int x] h) (fun r h1 => some (.inl (some ((Int32.ofNat 0))), am_up h1 389 0 ((fun r => r) r))) := by
  intro h
  rw [uW_ring, ggW_ring_0]
  refine congrArg (am_cI _ _) (funext fun r => funext fun h1 => ?_)
  simp -implicitDefEqProofs (disch := (first | omega | assumption | exact am_isS_3 | exact am_isS_25 | exact am_isX_356 | exact am_isX_359)) only [ggW_ring_0, ggW_ring_1, ccW_ring_0_1, i64_32, am_kI_x, am_kV_x, am_kI_i, am_nI_i, am_kV_i, am_nV_i, ↓reduceIte, eq_self, if_true, if_false, c_in, c_tn, pn_add, pn_mul, pn_subc, pn_addm, c_le_t, c_le_f, c_lt_t, c_lt_f, c_eq_f, c_eqm, bi_z, bi_1, bi_b, bi_T, bi_F, ite_not, up_eq, up_ne, or_self, or_true, true_or, or_false, false_or, and_true, true_and, and_self, not_true_eq_false, not_false_eq_true, Bool.false_eq_true]
theorem wd_swap (d : Nat) (x y : Int32) : ∀ h, am_cl (d + 121) qW_swap [.ref 0, .int x, .int y, .ref 389] h = am_cI (am_ctt 24) (am_cl (d + 120) qF_swap [.ref 0, .int x, .int y] h) (fun r h1 => some (.inl (some ((Int32.ofNat 0))), am_up h1 389 0 (sw01 r))) := by
  intro h
  rw [uW_swap, ggW_swap_0]
  refine congrArg (am_cI _ _) (funext fun r => funext fun h1 => ?_)
  by_cases hr : r = (Int32.ofNat 0)
  · subst hr; simp -implicitDefEqProofs (disch := (first | omega | assumption | exact am_isS_3 | exact am_isS_25 | exact am_isX_356 | exact am_isX_359)) only [ggW_swap_0, ggW_swap_1, ggW_swap_2, ggW_swap_3, ggW_swap_4, ccW_swap_0_1, sw01, i64_01, i64_00, kd389, ln389, am_kI_x, am_kV_x, am_kI_i, am_nI_i, am_kV_i, am_nV_i, ↓reduceIte, eq_self, if_true, if_false, c_in, c_tn, pn_add, pn_mul, pn_subc, pn_addm, c_le_t, c_le_f, c_lt_t, c_lt_f, c_eq_f, c_eqm, bi_z, bi_1, bi_b, bi_T, bi_F, ite_not, up_eq, up_ne, or_self, or_true, true_or, or_false, false_or, and_true, true_and, and_self, not_true_eq_false, not_false_eq_true, Bool.false_eq_true]
  · simp -implicitDefEqProofs (disch := (first | omega | assumption | exact am_isS_3 | exact am_isS_25 | exact am_isX_356 | exact am_isX_359)) only [ggW_swap_0, ggW_swap_1, ggW_swap_2, ggW_swap_3, ggW_swap_4, ccW_swap_0_1, hr, sw01, i64_01, i64_00, kd389, ln389, am_kI_x, am_kV_x, am_kI_i, am_nI_i, am_kV_i, am_nV_i, ↓reduceIte, eq_self, if_true, if_false, c_in, c_tn, pn_add, pn_mul, pn_subc, pn_addm, c_le_t, c_le_f, c_lt_t, c_lt_f, c_eq_f, c_eqm, bi_z, bi_1, bi_b, bi_T, bi_F, ite_not, up_eq, up_ne, or_self, or_true, true_or, or_false, false_or, and_true, true_and, and_self, not_true_eq_false, not_false_eq_true, Bool.false_eq_true]
theorem wd_tell (d : Nat) : ∀ h, am_cl (d + 121) qW_tell [.ref 0, .ref 389] h = am_cI (am_ctt 26) (am_cl (d + 120) qF_tell [.ref 0] h) (fun r h1 => some (.inl (some ((Int32.ofNat 0))), am_up h1 389 0 ((fun r => r) r))) := by
  intro h
  rw [uW_tell, ggW_tell_0]
  refine congrArg (am_cI _ _) (funext fun r => funext fun h1 => ?_)
  simp -implicitDefEqProofs (disch := (first | omega | assumption | exact am_isS_3 | exact am_isS_25 | exact am_isX_356 | exact am_isX_359)) only [ggW_tell_0, ggW_tell_1, ccW_tell_0_1, i64_32, am_kI_x, am_kV_x, am_kI_i, am_nI_i, am_kV_i, am_nV_i, ↓reduceIte, eq_self, if_true, if_false, c_in, c_tn, pn_add, pn_mul, pn_subc, pn_addm, c_le_t, c_le_f, c_lt_t, c_lt_f, c_eq_f, c_eqm, bi_z, bi_1, bi_b, bi_T, bi_F, ite_not, up_eq, up_ne, or_self, or_true, true_or, or_false, false_or, and_true, true_and, and_self, not_true_eq_false, not_false_eq_true, Bool.false_eq_true]
theorem wd_rests (d : Nat) (x : Int32) : ∀ h, am_cl (d + 121) qW_rests [.ref 0, .int x, .ref 389] h = am_cI (am_ctt 27) (am_cl (d + 120) qF_rests [.ref 0, .int x] h) (fun r h1 => some (.inl (some ((Int32.ofNat 0))), am_up h1 389 0 ((fun r => r) r))) := by
  intro h
  rw [uW_rests, ggW_rests_0]
  refine congrArg (am_cI _ _) (funext fun r => funext fun h1 => ?_)
  simp -implicitDefEqProofs (disch := (first | omega | assumption | exact am_isS_3 | exact am_isS_25 | exact am_isX_356 | exact am_isX_359)) only [ggW_rests_0, ggW_rests_1, ccW_rests_0_1, i64_32, am_kI_x, am_kV_x, am_kI_i, am_nI_i, am_kV_i, am_nV_i, ↓reduceIte, eq_self, if_true, if_false, c_in, c_tn, pn_add, pn_mul, pn_subc, pn_addm, c_le_t, c_le_f, c_lt_t, c_lt_f, c_eq_f, c_eqm, bi_z, bi_1, bi_b, bi_T, bi_F, ite_not, up_eq, up_ne, or_self, or_true, true_or, or_false, false_or, and_true, true_and, and_self, not_true_eq_false, not_false_eq_true, Bool.false_eq_true]
theorem wd_nothing (d : Nat) (x : Int32) : ∀ h, am_cl (d + 121) qW_nothing [.ref 0, .int x, .ref 389] h = am_cI (am_ctt 28) (am_cl (d + 120) qF_nothing [.ref 0, .int x] h) (fun r h1 => some (.inl (some ((Int32.ofNat 0))), am_up h1 389 0 ((fun r => r) r))) := by
  intro h
  rw [uW_nothing, ggW_nothing_0]
  refine congrArg (am_cI _ _) (funext fun r => funext fun h1 => ?_)
  simp -implicitDefEqProofs (disch := (first | omega | assumption | exact am_isS_3 | exact am_isS_25 | exact am_isX_356 | exact am_isX_359)) only [ggW_nothing_0, ggW_nothing_1, ccW_nothing_0_1, i64_32, am_kI_x, am_kV_x, am_kI_i, am_nI_i, am_kV_i, am_nV_i, ↓reduceIte, eq_self, if_true, if_false, c_in, c_tn, pn_add, pn_mul, pn_subc, pn_addm, c_le_t, c_le_f, c_lt_t, c_lt_f, c_eq_f, c_eqm, bi_z, bi_1, bi_b, bi_T, bi_F, ite_not, up_eq, up_ne, or_self, or_true, true_or, or_false, false_or, and_true, true_and, and_self, not_true_eq_false, not_false_eq_true, Bool.false_eq_true]
theorem wd_ahead (d : Nat) (x y : Int32) : ∀ h, am_cl (d + 121) qW_ahead [.ref 0, .int x, .int y, .ref 389] h = am_cI (am_ctt 29) (am_cl (d + 120) qF_ahead [.ref 0, .int x, .int y] h) (fun r h1 => some (.inl (some ((Int32.ofNat 0))), am_up h1 389 0 ((fun r => r) r))) := by
  intro h
  rw [uW_ahead, ggW_ahead_0]
  refine congrArg (am_cI _ _) (funext fun r => funext fun h1 => ?_)
  simp -implicitDefEqProofs (disch := (first | omega | assumption | exact am_isS_3 | exact am_isS_25 | exact am_isX_356 | exact am_isX_359)) only [ggW_ahead_0, ggW_ahead_1, ccW_ahead_0_1, i64_32, am_kI_x, am_kV_x, am_kI_i, am_nI_i, am_kV_i, am_nV_i, ↓reduceIte, eq_self, if_true, if_false, c_in, c_tn, pn_add, pn_mul, pn_subc, pn_addm, c_le_t, c_le_f, c_lt_t, c_lt_f, c_eq_f, c_eqm, bi_z, bi_1, bi_b, bi_T, bi_F, ite_not, up_eq, up_ne, or_self, or_true, true_or, or_false, false_or, and_true, true_and, and_self, not_true_eq_false, not_false_eq_true, Bool.false_eq_true]
theorem wd_log (d : Nat) (x y : Int32) : ∀ h, am_cl (d + 121) qW_log [.ref 0, .int x, .int y, .ref 389] h = am_cI (am_ctt 33) (am_cl (d + 120) qF_log [.ref 0, .int x, .int y] h) (fun r h1 => some (.inl (some ((Int32.ofNat 0))), am_up h1 389 0 ((fun r => r) r))) := by
  intro h
  rw [uW_log, ggW_log_0]
  refine congrArg (am_cI _ _) (funext fun r => funext fun h1 => ?_)
  simp -implicitDefEqProofs (disch := (first | omega | assumption | exact am_isS_3 | exact am_isS_25 | exact am_isX_356 | exact am_isX_359)) only [ggW_log_0, ggW_log_1, ccW_log_0_1, i64_32, am_kI_x, am_kV_x, am_kI_i, am_nI_i, am_kV_i, am_nV_i, ↓reduceIte, eq_self, if_true, if_false, c_in, c_tn, pn_add, pn_mul, pn_subc, pn_addm, c_le_t, c_le_f, c_lt_t, c_lt_f, c_eq_f, c_eqm, bi_z, bi_1, bi_b, bi_T, bi_F, ite_not, up_eq, up_ne, or_self, or_true, true_or, or_false, false_or, and_true, true_and, and_self, not_true_eq_false, not_false_eq_true, Bool.false_eq_true]
theorem wd_rules (d : Nat) (x : Int32) : ∀ h, am_cl (d + 121) qW_rules [.ref 0, .int x, .ref 389] h = am_cI (am_ctt 25) (am_cl (d + 120) qF_rules [.ref 0, .int x] h) (fun r h1 => some (.inl (some ((Int32.ofNat 0))), am_up h1 389 0 ((fun r => r) r))) := by
  intro h
  rw [uW_rules, ggW_rules_0]
  refine congrArg (am_cI _ _) (funext fun r => funext fun h1 => ?_)
  simp -implicitDefEqProofs (disch := (first | omega | assumption | exact am_isS_3 | exact am_isS_25 | exact am_isX_356 | exact am_isX_359)) only [ggW_rules_0, ggW_rules_1, ccW_rules_0_1, i64_32, am_kI_x, am_kV_x, am_kI_i, am_nI_i, am_kV_i, am_nV_i, ↓reduceIte, eq_self, if_true, if_false, c_in, c_tn, pn_add, pn_mul, pn_subc, pn_addm, c_le_t, c_le_f, c_lt_t, c_lt_f, c_eq_f, c_eqm, bi_z, bi_1, bi_b, bi_T, bi_F, ite_not, up_eq, up_ne, or_self, or_true, true_or, or_false, false_or, and_true, true_and, and_self, not_true_eq_false, not_false_eq_true, Bool.false_eq_true]
theorem wd_trial (d : Nat) (x y : Int32) : ∀ h, am_cl (d + 121) qW_trial [.ref 0, .int x, .int y, .ref 389] h = am_cI (am_ctt 30) (am_cl (d + 120) qF_trial [.ref 0, .int x, .int y] h) (fun r h1 => some (.inl (some ((Int32.ofNat 0))), am_up h1 389 0 ((fun r => r) r))) := by
  intro h
  rw [uW_trial, ggW_trial_0]
  refine congrArg (am_cI _ _) (funext fun r => funext fun h1 => ?_)
  simp -implicitDefEqProofs (disch := (first | omega | assumption | exact am_isS_3 | exact am_isS_25 | exact am_isX_356 | exact am_isX_359)) only [ggW_trial_0, ggW_trial_1, ccW_trial_0_1, i64_32, am_kI_x, am_kV_x, am_kI_i, am_nI_i, am_kV_i, am_nV_i, ↓reduceIte, eq_self, if_true, if_false, c_in, c_tn, pn_add, pn_mul, pn_subc, pn_addm, c_le_t, c_le_f, c_lt_t, c_lt_f, c_eq_f, c_eqm, bi_z, bi_1, bi_b, bi_T, bi_F, ite_not, up_eq, up_ne, or_self, or_true, true_or, or_false, false_or, and_true, true_and, and_self, not_true_eq_false, not_false_eq_true, Bool.false_eq_true]
theorem wd_span (d : Nat) (x y : Int32) : ∀ h, am_cl (d + 121) qW_span [.ref 0, .int x, .int y, .ref 389] h = am_cI (am_ctt 31) (am_cl (d + 120) qF_span [.ref 0, .int x, .int y] h) (fun r h1 => some (.inl (some ((Int32.ofNat 0))), am_up h1 389 0 ((fun r => r) r))) := by
  intro h
  rw [uW_span, ggW_span_0]
  refine congrArg (am_cI _ _) (funext fun r => funext fun h1 => ?_)
  simp -implicitDefEqProofs (disch := (first | omega | assumption | exact am_isS_3 | exact am_isS_25 | exact am_isX_356 | exact am_isX_359)) only [ggW_span_0, ggW_span_1, ccW_span_0_1, i64_32, am_kI_x, am_kV_x, am_kI_i, am_nI_i, am_kV_i, am_nV_i, ↓reduceIte, eq_self, if_true, if_false, c_in, c_tn, pn_add, pn_mul, pn_subc, pn_addm, c_le_t, c_le_f, c_lt_t, c_lt_f, c_eq_f, c_eqm, bi_z, bi_1, bi_b, bi_T, bi_F, ite_not, up_eq, up_ne, or_self, or_true, true_or, or_false, false_or, and_true, true_and, and_self, not_true_eq_false, not_false_eq_true, Bool.false_eq_true]
theorem wd_led (d : Nat) (x y : Int32) : ∀ h, am_cl (d + 121) qW_led [.ref 0, .int x, .int y, .ref 389] h = am_cI (am_ctt 32) (am_cl (d + 120) qF_led [.ref 0, .int x, .int y] h) (fun r h1 => some (.inl (some ((Int32.ofNat 0))), am_up h1 389 0 ((fun r => r) r))) := by
  intro h
  rw [uW_led, ggW_led_0]
  refine congrArg (am_cI _ _) (funext fun r => funext fun h1 => ?_)
  simp -implicitDefEqProofs (disch := (first | omega | assumption | exact am_isS_3 | exact am_isS_25 | exact am_isX_356 | exact am_isX_359)) only [ggW_led_0, ggW_led_1, ccW_led_0_1, i64_32, am_kI_x, am_kV_x, am_kI_i, am_nI_i, am_kV_i, am_nV_i, ↓reduceIte, eq_self, if_true, if_false, c_in, c_tn, pn_add, pn_mul, pn_subc, pn_addm, c_le_t, c_le_f, c_lt_t, c_lt_f, c_eq_f, c_eqm, bi_z, bi_1, bi_b, bi_T, bi_F, ite_not, up_eq, up_ne, or_self, or_true, true_or, or_false, false_or, and_true, true_and, and_self, not_true_eq_false, not_false_eq_true, Bool.false_eq_true]
theorem cs_7 {i L : Nat} {h : am_H} (hi : i + 6 ≤ L) (hL : L ≤ 3072) (el : h.2 392 0 = (Int32.ofNat L)) (K : J2 h h) (d : Nat) : LawStep d 7 i h := by
  intro x5 x6
  obtain ⟨r, v, h1, h2, e1, e2, e3, e4, J, f1, f2, f3, f4, n⟩ := twoS d (fun r => r) (T_parish) (sdF0 []) (sdR0 []) (by decide +kernel) (wd_parish d) K
  have s0 := sl_of el hL
  have s1 := sl_of ((congrFun f2 0).trans el) hL
  by_cases hr : r = (Int32.ofNat 0)
  · have hg := e4 hr
    subst hr
    have hg : h2.2 389 0 = v := hg
    refine ⟨h2, .int (Int32.ofNat 0), .int v, ?_, J, f3, f4, n⟩
    simp -implicitDefEqProofs (disch := (first | omega | assumption | exact am_isS_3 | exact am_isS_25 | exact am_isX_356 | exact am_isX_359)) only [ggW_law__7, ggW_law__8, ggW_law__9, ggW_law__10, ggW_law__11, ggW_law__12, ccW_law__7_3, ccW_law__7_2, ccW_law__7_1, s0, s1, f1, e1, e2, e3, hg, lg_rf, am_kI_x, am_kV_x, am_kI_i, am_nI_i, am_kV_i, am_nV_i, ↓reduceIte, eq_self, if_true, if_false, c_in, c_tn, pn_add, pn_mul, pn_subc, pn_addm, c_le_t, c_le_f, c_lt_t, c_lt_f, c_eq_f, c_eqm, bi_z, bi_1, bi_b, bi_T, bi_F, ite_not, up_eq, up_ne, or_self, or_true, true_or, or_false, false_or, and_true, true_and, and_self, not_true_eq_false, not_false_eq_true, Bool.false_eq_true]
  · refine ⟨h2, .int r, .int v, ?_, J, f3, f4, n⟩
    simp -implicitDefEqProofs (disch := (first | omega | assumption | exact am_isS_3 | exact am_isS_25 | exact am_isX_356 | exact am_isX_359)) only [ggW_law__7, ggW_law__8, ggW_law__9, ggW_law__10, ggW_law__11, ggW_law__12, ccW_law__7_3, ccW_law__7_2, ccW_law__7_1, s0, s1, f1, e1, e2, e3, hr, am_kI_x, am_kV_x, am_kI_i, am_nI_i, am_kV_i, am_nV_i, ↓reduceIte, eq_self, if_true, if_false, c_in, c_tn, pn_add, pn_mul, pn_subc, pn_addm, c_le_t, c_le_f, c_lt_t, c_lt_f, c_eq_f, c_eqm, bi_z, bi_1, bi_b, bi_T, bi_F, ite_not, up_eq, up_ne, or_self, or_true, true_or, or_false, false_or, and_true, true_and, and_self, not_true_eq_false, not_false_eq_true, Bool.false_eq_true]
theorem cs_13 {i L : Nat} {h : am_H} (hi : i + 6 ≤ L) (hL : L ≤ 3072) (el : h.2 392 0 = (Int32.ofNat L)) (K : J2 h h) (d : Nat) : LawStep d 13 i h := by
  intro x5 x6
  obtain ⟨r, v, h1, h2, e1, e2, e3, e4, J, f1, f2, f3, f4, n⟩ := twoS d (fun r => r) (T_law) (sdF0 []) (sdR0 []) (by decide +kernel) (wd_law d) K
  have s0 := sl_of el hL
  have s1 := sl_of ((congrFun f2 0).trans el) hL
  by_cases hr : r = (Int32.ofNat 0)
  · have hg := e4 hr
    subst hr
    have hg : h2.2 389 0 = v := hg
    refine ⟨h2, .int (Int32.ofNat 0), .int v, ?_, J, f3, f4, n⟩
    simp -implicitDefEqProofs (disch := (first | omega | assumption | exact am_isS_3 | exact am_isS_25 | exact am_isX_356 | exact am_isX_359)) only [ggW_law__13, ggW_law__14, ggW_law__15, ggW_law__16, ggW_law__17, ggW_law__18, ccW_law__13_3, ccW_law__13_2, ccW_law__13_1, s0, s1, f1, e1, e2, e3, hg, lg_rf, am_kI_x, am_kV_x, am_kI_i, am_nI_i, am_kV_i, am_nV_i, ↓reduceIte, eq_self, if_true, if_false, c_in, c_tn, pn_add, pn_mul, pn_subc, pn_addm, c_le_t, c_le_f, c_lt_t, c_lt_f, c_eq_f, c_eqm, bi_z, bi_1, bi_b, bi_T, bi_F, ite_not, up_eq, up_ne, or_self, or_true, true_or, or_false, false_or, and_true, true_and, and_self, not_true_eq_false, not_false_eq_true, Bool.false_eq_true]
  · refine ⟨h2, .int r, .int v, ?_, J, f3, f4, n⟩
    simp -implicitDefEqProofs (disch := (first | omega | assumption | exact am_isS_3 | exact am_isS_25 | exact am_isX_356 | exact am_isX_359)) only [ggW_law__13, ggW_law__14, ggW_law__15, ggW_law__16, ggW_law__17, ggW_law__18, ccW_law__13_3, ccW_law__13_2, ccW_law__13_1, s0, s1, f1, e1, e2, e3, hr, am_kI_x, am_kV_x, am_kI_i, am_nI_i, am_kV_i, am_nV_i, ↓reduceIte, eq_self, if_true, if_false, c_in, c_tn, pn_add, pn_mul, pn_subc, pn_addm, c_le_t, c_le_f, c_lt_t, c_lt_f, c_eq_f, c_eqm, bi_z, bi_1, bi_b, bi_T, bi_F, ite_not, up_eq, up_ne, or_self, or_true, true_or, or_false, false_or, and_true, true_and, and_self, not_true_eq_false, not_false_eq_true, Bool.false_eq_true]
theorem cs_21 {i L : Nat} {h : am_H} (hi : i + 6 ≤ L) (hL : L ≤ 3072) (el : h.2 392 0 = (Int32.ofNat L)) (K : J2 h h) (d : Nat) : LawStep d 21 i h := by
  intro x5 x6
  obtain ⟨r, v, h1, h2, e1, e2, e3, e4, J, f1, f2, f3, f4, n⟩ := twoS d (fun r => r) (T_thing (h.2 391 (i + 1)) (h.2 391 (i + 2))) (sdF0 [h.2 391 (i + 1), h.2 391 (i + 2)]) (sdR0 [h.2 391 (i + 1), h.2 391 (i + 2)]) (by decide +kernel) (wd_thing d (h.2 391 (i + 1)) (h.2 391 (i + 2))) K
  have s0 := sl_of el hL
  have s1 := sl_of ((congrFun f2 0).trans el) hL
  by_cases hr : r = (Int32.ofNat 0)
  · have hg := e4 hr
    subst hr
    have hg : h2.2 389 0 = v := hg
    refine ⟨h2, .int (Int32.ofNat 0), .int v, ?_, J, f3, f4, n⟩
    simp -implicitDefEqProofs (disch := (first | omega | assumption | exact am_isS_3 | exact am_isS_25 | exact am_isX_356 | exact am_isX_359)) only [ggW_law__21, ggW_law__22, ggW_law__23, ggW_law__24, ggW_law__25, ggW_law__26, ccW_law__21_3, ccW_law__21_2, ccW_law__21_1, s0, s1, f1, e1, e2, e3, hg, lg_rf, am_kI_x, am_kV_x, am_kI_i, am_nI_i, am_kV_i, am_nV_i, ↓reduceIte, eq_self, if_true, if_false, c_in, c_tn, pn_add, pn_mul, pn_subc, pn_addm, c_le_t, c_le_f, c_lt_t, c_lt_f, c_eq_f, c_eqm, bi_z, bi_1, bi_b, bi_T, bi_F, ite_not, up_eq, up_ne, or_self, or_true, true_or, or_false, false_or, and_true, true_and, and_self, not_true_eq_false, not_false_eq_true, Bool.false_eq_true]
  · refine ⟨h2, .int r, .int v, ?_, J, f3, f4, n⟩
    simp -implicitDefEqProofs (disch := (first | omega | assumption | exact am_isS_3 | exact am_isS_25 | exact am_isX_356 | exact am_isX_359)) only [ggW_law__21, ggW_law__22, ggW_law__23, ggW_law__24, ggW_law__25, ggW_law__26, ccW_law__21_3, ccW_law__21_2, ccW_law__21_1, s0, s1, f1, e1, e2, e3, hr, am_kI_x, am_kV_x, am_kI_i, am_nI_i, am_kV_i, am_nV_i, ↓reduceIte, eq_self, if_true, if_false, c_in, c_tn, pn_add, pn_mul, pn_subc, pn_addm, c_le_t, c_le_f, c_lt_t, c_lt_f, c_eq_f, c_eqm, bi_z, bi_1, bi_b, bi_T, bi_F, ite_not, up_eq, up_ne, or_self, or_true, true_or, or_false, false_or, and_true, true_and, and_self, not_true_eq_false, not_false_eq_true, Bool.false_eq_true]
theorem cs_27 {i L : Nat} {h : am_H} (hi : i + 6 ≤ L) (hL : L ≤ 3072) (el : h.2 392 0 = (Int32.ofNat L)) (K : J2 h h) (d : Nat) : LawStep d 27 i h := by
  intro x5 x6
  obtain ⟨r, v, h1, h2, e1, e2, e3, e4, J, f1, f2, f3, f4, n⟩ := twoS d (fun r => r) (T_child (h.2 391 (i + 1)) (h.2 391 (i + 2))) (sdF0 [h.2 391 (i + 1), h.2 391 (i + 2)]) (sdR0 [h.2 391 (i + 1), h.2 391 (i + 2)]) (by decide +kernel) (wd_child d (h.2 391 (i + 1)) (h.2 391 (i + 2))) K
  have s0 := sl_of el hL
  have s1 := sl_of ((congrFun f2 0).trans el) hL
  by_cases hr : r = (Int32.ofNat 0)
  · have hg := e4 hr
    subst hr
    have hg : h2.2 389 0 = v := hg
    refine ⟨h2, .int (Int32.ofNat 0), .int v, ?_, J, f3, f4, n⟩
    simp -implicitDefEqProofs (disch := (first | omega | assumption | exact am_isS_3 | exact am_isS_25 | exact am_isX_356 | exact am_isX_359)) only [ggW_law__27, ggW_law__28, ggW_law__29, ggW_law__30, ggW_law__31, ggW_law__32, ccW_law__27_3, ccW_law__27_2, ccW_law__27_1, s0, s1, f1, e1, e2, e3, hg, lg_rf, am_kI_x, am_kV_x, am_kI_i, am_nI_i, am_kV_i, am_nV_i, ↓reduceIte, eq_self, if_true, if_false, c_in, c_tn, pn_add, pn_mul, pn_subc, pn_addm, c_le_t, c_le_f, c_lt_t, c_lt_f, c_eq_f, c_eqm, bi_z, bi_1, bi_b, bi_T, bi_F, ite_not, up_eq, up_ne, or_self, or_true, true_or, or_false, false_or, and_true, true_and, and_self, not_true_eq_false, not_false_eq_true, Bool.false_eq_true]
  · refine ⟨h2, .int r, .int v, ?_, J, f3, f4, n⟩
    simp -implicitDefEqProofs (disch := (first | omega | assumption | exact am_isS_3 | exact am_isS_25 | exact am_isX_356 | exact am_isX_359)) only [ggW_law__27, ggW_law__28, ggW_law__29, ggW_law__30, ggW_law__31, ggW_law__32, ccW_law__27_3, ccW_law__27_2, ccW_law__27_1, s0, s1, f1, e1, e2, e3, hr, am_kI_x, am_kV_x, am_kI_i, am_nI_i, am_kV_i, am_nV_i, ↓reduceIte, eq_self, if_true, if_false, c_in, c_tn, pn_add, pn_mul, pn_subc, pn_addm, c_le_t, c_le_f, c_lt_t, c_lt_f, c_eq_f, c_eqm, bi_z, bi_1, bi_b, bi_T, bi_F, ite_not, up_eq, up_ne, or_self, or_true, true_or, or_false, false_or, and_true, true_and, and_self, not_true_eq_false, not_false_eq_true, Bool.false_eq_true]
theorem cs_33 {i L : Nat} {h : am_H} (hi : i + 6 ≤ L) (hL : L ≤ 3072) (el : h.2 392 0 = (Int32.ofNat L)) (K : J2 h h) (d : Nat) : LawStep d 33 i h := by
  intro x5 x6
  obtain ⟨r, v, h1, h2, e1, e2, e3, e4, J, f1, f2, f3, f4, n⟩ := twoS d (fun r => r) (T_months (h.2 391 (i + 1))) (sdF0 [h.2 391 (i + 1)]) (sdR0 [h.2 391 (i + 1)]) (by decide +kernel) (wd_months d (h.2 391 (i + 1))) K
  have s0 := sl_of el hL
  have s1 := sl_of ((congrFun f2 0).trans el) hL
  by_cases hr : r = (Int32.ofNat 0)
  · have hg := e4 hr
    subst hr
    have hg : h2.2 389 0 = v := hg
    refine ⟨h2, .int (Int32.ofNat 0), .int v, ?_, J, f3, f4, n⟩
    simp -implicitDefEqProofs (disch := (first | omega | assumption | exact am_isS_3 | exact am_isS_25 | exact am_isX_356 | exact am_isX_359)) only [ggW_law__33, ggW_law__34, ggW_law__35, ggW_law__36, ggW_law__37, ggW_law__38, ccW_law__33_3, ccW_law__33_2, ccW_law__33_1, s0, s1, f1, e1, e2, e3, hg, lg_rf, am_kI_x, am_kV_x, am_kI_i, am_nI_i, am_kV_i, am_nV_i, ↓reduceIte, eq_self, if_true, if_false, c_in, c_tn, pn_add, pn_mul, pn_subc, pn_addm, c_le_t, c_le_f, c_lt_t, c_lt_f, c_eq_f, c_eqm, bi_z, bi_1, bi_b, bi_T, bi_F, ite_not, up_eq, up_ne, or_self, or_true, true_or, or_false, false_or, and_true, true_and, and_self, not_true_eq_false, not_false_eq_true, Bool.false_eq_true]
  · refine ⟨h2, .int r, .int v, ?_, J, f3, f4, n⟩
    simp -implicitDefEqProofs (disch := (first | omega | assumption | exact am_isS_3 | exact am_isS_25 | exact am_isX_356 | exact am_isX_359)) only [ggW_law__33, ggW_law__34, ggW_law__35, ggW_law__36, ggW_law__37, ggW_law__38, ccW_law__33_3, ccW_law__33_2, ccW_law__33_1, s0, s1, f1, e1, e2, e3, hr, am_kI_x, am_kV_x, am_kI_i, am_nI_i, am_kV_i, am_nV_i, ↓reduceIte, eq_self, if_true, if_false, c_in, c_tn, pn_add, pn_mul, pn_subc, pn_addm, c_le_t, c_le_f, c_lt_t, c_lt_f, c_eq_f, c_eqm, bi_z, bi_1, bi_b, bi_T, bi_F, ite_not, up_eq, up_ne, or_self, or_true, true_or, or_false, false_or, and_true, true_and, and_self, not_true_eq_false, not_false_eq_true, Bool.false_eq_true]
theorem cs_39 {i L : Nat} {h : am_H} (hi : i + 6 ≤ L) (hL : L ≤ 3072) (el : h.2 392 0 = (Int32.ofNat L)) (K : J2 h h) (d : Nat) : LawStep d 39 i h := by
  intro x5 x6
  obtain ⟨r, v, h1, h2, e1, e2, e3, e4, J, f1, f2, f3, f4, n⟩ := twoS d (fun r => r) (T_birth) (sdF0 []) (sdR0 []) (by decide +kernel) (wd_birth d) K
  have s0 := sl_of el hL
  have s1 := sl_of ((congrFun f2 0).trans el) hL
  by_cases hr : r = (Int32.ofNat 0)
  · have hg := e4 hr
    subst hr
    have hg : h2.2 389 0 = v := hg
    refine ⟨h2, .int (Int32.ofNat 0), .int v, ?_, J, f3, f4, n⟩
    simp -implicitDefEqProofs (disch := (first | omega | assumption | exact am_isS_3 | exact am_isS_25 | exact am_isX_356 | exact am_isX_359)) only [ggW_law__39, ggW_law__40, ggW_law__41, ggW_law__42, ggW_law__43, ggW_law__44, ccW_law__39_3, ccW_law__39_2, ccW_law__39_1, s0, s1, f1, e1, e2, e3, hg, lg_rf, am_kI_x, am_kV_x, am_kI_i, am_nI_i, am_kV_i, am_nV_i, ↓reduceIte, eq_self, if_true, if_false, c_in, c_tn, pn_add, pn_mul, pn_subc, pn_addm, c_le_t, c_le_f, c_lt_t, c_lt_f, c_eq_f, c_eqm, bi_z, bi_1, bi_b, bi_T, bi_F, ite_not, up_eq, up_ne, or_self, or_true, true_or, or_false, false_or, and_true, true_and, and_self, not_true_eq_false, not_false_eq_true, Bool.false_eq_true]
  · refine ⟨h2, .int r, .int v, ?_, J, f3, f4, n⟩
    simp -implicitDefEqProofs (disch := (first | omega | assumption | exact am_isS_3 | exact am_isS_25 | exact am_isX_356 | exact am_isX_359)) only [ggW_law__39, ggW_law__40, ggW_law__41, ggW_law__42, ggW_law__43, ggW_law__44, ccW_law__39_3, ccW_law__39_2, ccW_law__39_1, s0, s1, f1, e1, e2, e3, hr, am_kI_x, am_kV_x, am_kI_i, am_nI_i, am_kV_i, am_nV_i, ↓reduceIte, eq_self, if_true, if_false, c_in, c_tn, pn_add, pn_mul, pn_subc, pn_addm, c_le_t, c_le_f, c_lt_t, c_lt_f, c_eq_f, c_eqm, bi_z, bi_1, bi_b, bi_T, bi_F, ite_not, up_eq, up_ne, or_self, or_true, true_or, or_false, false_or, and_true, true_and, and_self, not_true_eq_false, not_false_eq_true, Bool.false_eq_true]
theorem cs_45 {i L : Nat} {h : am_H} (hi : i + 6 ≤ L) (hL : L ≤ 3072) (el : h.2 392 0 = (Int32.ofNat L)) (K : J2 h h) (d : Nat) : LawStep d 45 i h := by
  intro x5 x6
  obtain ⟨r, v, h1, h2, e1, e2, e3, e4, J, f1, f2, f3, f4, n⟩ := twoS d (fun r => r) (T_move (h.2 391 (i + 1)) (h.2 391 (i + 2))) (sdF0 [h.2 391 (i + 1), h.2 391 (i + 2)]) (sdR0 [h.2 391 (i + 1), h.2 391 (i + 2)]) (by decide +kernel) (wd_move d (h.2 391 (i + 1)) (h.2 391 (i + 2))) K
  have s0 := sl_of el hL
  have s1 := sl_of ((congrFun f2 0).trans el) hL
  by_cases hr : r = (Int32.ofNat 0)
  · have hg := e4 hr
    subst hr
    have hg : h2.2 389 0 = v := hg
    refine ⟨h2, .int (Int32.ofNat 0), .int v, ?_, J, f3, f4, n⟩
    simp -implicitDefEqProofs (disch := (first | omega | assumption | exact am_isS_3 | exact am_isS_25 | exact am_isX_356 | exact am_isX_359)) only [ggW_law__45, ggW_law__46, ggW_law__47, ggW_law__48, ggW_law__49, ggW_law__50, ccW_law__45_3, ccW_law__45_2, ccW_law__45_1, s0, s1, f1, e1, e2, e3, hg, lg_rf, am_kI_x, am_kV_x, am_kI_i, am_nI_i, am_kV_i, am_nV_i, ↓reduceIte, eq_self, if_true, if_false, c_in, c_tn, pn_add, pn_mul, pn_subc, pn_addm, c_le_t, c_le_f, c_lt_t, c_lt_f, c_eq_f, c_eqm, bi_z, bi_1, bi_b, bi_T, bi_F, ite_not, up_eq, up_ne, or_self, or_true, true_or, or_false, false_or, and_true, true_and, and_self, not_true_eq_false, not_false_eq_true, Bool.false_eq_true]
  · refine ⟨h2, .int r, .int v, ?_, J, f3, f4, n⟩
    simp -implicitDefEqProofs (disch := (first | omega | assumption | exact am_isS_3 | exact am_isS_25 | exact am_isX_356 | exact am_isX_359)) only [ggW_law__45, ggW_law__46, ggW_law__47, ggW_law__48, ggW_law__49, ggW_law__50, ccW_law__45_3, ccW_law__45_2, ccW_law__45_1, s0, s1, f1, e1, e2, e3, hr, am_kI_x, am_kV_x, am_kI_i, am_nI_i, am_kV_i, am_nV_i, ↓reduceIte, eq_self, if_true, if_false, c_in, c_tn, pn_add, pn_mul, pn_subc, pn_addm, c_le_t, c_le_f, c_lt_t, c_lt_f, c_eq_f, c_eqm, bi_z, bi_1, bi_b, bi_T, bi_F, ite_not, up_eq, up_ne, or_self, or_true, true_or, or_false, false_or, and_true, true_and, and_self, not_true_eq_false, not_false_eq_true, Bool.false_eq_true]
theorem cs_51 {i L : Nat} {h : am_H} (hi : i + 6 ≤ L) (hL : L ≤ 3072) (el : h.2 392 0 = (Int32.ofNat L)) (K : J2 h h) (d : Nat) : LawStep d 51 i h := by
  intro x5 x6
  obtain ⟨r, v, h1, h2, e1, e2, e3, e4, J, f1, f2, f3, f4, n⟩ := twoS d (fun r => r) (T_blow (h.2 391 (i + 1))) (sdF0 [h.2 391 (i + 1)]) (sdR0 [h.2 391 (i + 1)]) (by decide +kernel) (wd_blow d (h.2 391 (i + 1))) K
  have s0 := sl_of el hL
  have s1 := sl_of ((congrFun f2 0).trans el) hL
  by_cases hr : r = (Int32.ofNat 0)
  · have hg := e4 hr
    subst hr
    have hg : h2.2 389 0 = v := hg
    refine ⟨h2, .int (Int32.ofNat 0), .int v, ?_, J, f3, f4, n⟩
    simp -implicitDefEqProofs (disch := (first | omega | assumption | exact am_isS_3 | exact am_isS_25 | exact am_isX_356 | exact am_isX_359)) only [ggW_law__51, ggW_law__52, ggW_law__53, ggW_law__54, ggW_law__55, ggW_law__56, ccW_law__51_3, ccW_law__51_2, ccW_law__51_1, s0, s1, f1, e1, e2, e3, hg, lg_rf, am_kI_x, am_kV_x, am_kI_i, am_nI_i, am_kV_i, am_nV_i, ↓reduceIte, eq_self, if_true, if_false, c_in, c_tn, pn_add, pn_mul, pn_subc, pn_addm, c_le_t, c_le_f, c_lt_t, c_lt_f, c_eq_f, c_eqm, bi_z, bi_1, bi_b, bi_T, bi_F, ite_not, up_eq, up_ne, or_self, or_true, true_or, or_false, false_or, and_true, true_and, and_self, not_true_eq_false, not_false_eq_true, Bool.false_eq_true]
  · refine ⟨h2, .int r, .int v, ?_, J, f3, f4, n⟩
    simp -implicitDefEqProofs (disch := (first | omega | assumption | exact am_isS_3 | exact am_isS_25 | exact am_isX_356 | exact am_isX_359)) only [ggW_law__51, ggW_law__52, ggW_law__53, ggW_law__54, ggW_law__55, ggW_law__56, ccW_law__51_3, ccW_law__51_2, ccW_law__51_1, s0, s1, f1, e1, e2, e3, hr, am_kI_x, am_kV_x, am_kI_i, am_nI_i, am_kV_i, am_nV_i, ↓reduceIte, eq_self, if_true, if_false, c_in, c_tn, pn_add, pn_mul, pn_subc, pn_addm, c_le_t, c_le_f, c_lt_t, c_lt_f, c_eq_f, c_eqm, bi_z, bi_1, bi_b, bi_T, bi_F, ite_not, up_eq, up_ne, or_self, or_true, true_or, or_false, false_or, and_true, true_and, and_self, not_true_eq_false, not_false_eq_true, Bool.false_eq_true]
theorem cs_57 {i L : Nat} {h : am_H} (hi : i + 6 ≤ L) (hL : L ≤ 3072) (el : h.2 392 0 = (Int32.ofNat L)) (K : J2 h h) (d : Nat) : LawStep d 57 i h := by
  intro x5 x6
  obtain ⟨r, v, h1, h2, e1, e2, e3, e4, J, f1, f2, f3, f4, n⟩ := twoS d (fun r => r) (T_wish (h.2 391 (i + 1)) (h.2 391 (i + 2))) (sdF0 [h.2 391 (i + 1), h.2 391 (i + 2)]) (sdR0 [h.2 391 (i + 1), h.2 391 (i + 2)]) (by decide +kernel) (wd_wish d (h.2 391 (i + 1)) (h.2 391 (i + 2))) K
  have s0 := sl_of el hL
  have s1 := sl_of ((congrFun f2 0).trans el) hL
  by_cases hr : r = (Int32.ofNat 0)
  · have hg := e4 hr
    subst hr
    have hg : h2.2 389 0 = v := hg
    refine ⟨h2, .int (Int32.ofNat 0), .int v, ?_, J, f3, f4, n⟩
    simp -implicitDefEqProofs (disch := (first | omega | assumption | exact am_isS_3 | exact am_isS_25 | exact am_isX_356 | exact am_isX_359)) only [ggW_law__57, ggW_law__58, ggW_law__59, ggW_law__60, ggW_law__61, ggW_law__62, ccW_law__57_3, ccW_law__57_2, ccW_law__57_1, s0, s1, f1, e1, e2, e3, hg, lg_rf, am_kI_x, am_kV_x, am_kI_i, am_nI_i, am_kV_i, am_nV_i, ↓reduceIte, eq_self, if_true, if_false, c_in, c_tn, pn_add, pn_mul, pn_subc, pn_addm, c_le_t, c_le_f, c_lt_t, c_lt_f, c_eq_f, c_eqm, bi_z, bi_1, bi_b, bi_T, bi_F, ite_not, up_eq, up_ne, or_self, or_true, true_or, or_false, false_or, and_true, true_and, and_self, not_true_eq_false, not_false_eq_true, Bool.false_eq_true]
  · refine ⟨h2, .int r, .int v, ?_, J, f3, f4, n⟩
    simp -implicitDefEqProofs (disch := (first | omega | assumption | exact am_isS_3 | exact am_isS_25 | exact am_isX_356 | exact am_isX_359)) only [ggW_law__57, ggW_law__58, ggW_law__59, ggW_law__60, ggW_law__61, ggW_law__62, ccW_law__57_3, ccW_law__57_2, ccW_law__57_1, s0, s1, f1, e1, e2, e3, hr, am_kI_x, am_kV_x, am_kI_i, am_nI_i, am_kV_i, am_nV_i, ↓reduceIte, eq_self, if_true, if_false, c_in, c_tn, pn_add, pn_mul, pn_subc, pn_addm, c_le_t, c_le_f, c_lt_t, c_lt_f, c_eq_f, c_eqm, bi_z, bi_1, bi_b, bi_T, bi_F, ite_not, up_eq, up_ne, or_self, or_true, true_or, or_false, false_or, and_true, true_and, and_self, not_true_eq_false, not_false_eq_true, Bool.false_eq_true]
theorem cs_63 {i L : Nat} {h : am_H} (hi : i + 6 ≤ L) (hL : L ≤ 3072) (el : h.2 392 0 = (Int32.ofNat L)) (K : J2 h h) (d : Nat) : LawStep d 63 i h := by
  intro x5 x6
  obtain ⟨r, v, h1, h2, e1, e2, e3, e4, J, f1, f2, f3, f4, n⟩ := twoS d (fun r => r) (T_grip (h.2 391 (i + 1)) (h.2 391 (i + 2))) (sdF0 [h.2 391 (i + 1), h.2 391 (i + 2)]) (sdR0 [h.2 391 (i + 1), h.2 391 (i + 2)]) (by decide +kernel) (wd_grip d (h.2 391 (i + 1)) (h.2 391 (i + 2))) K
  have s0 := sl_of el hL
  have s1 := sl_of ((congrFun f2 0).trans el) hL
  by_cases hr : r = (Int32.ofNat 0)
  · have hg := e4 hr
    subst hr
    have hg : h2.2 389 0 = v := hg
    refine ⟨h2, .int (Int32.ofNat 0), .int v, ?_, J, f3, f4, n⟩
    simp -implicitDefEqProofs (disch := (first | omega | assumption | exact am_isS_3 | exact am_isS_25 | exact am_isX_356 | exact am_isX_359)) only [ggW_law__63, ggW_law__64, ggW_law__65, ggW_law__66, ggW_law__67, ggW_law__68, ccW_law__63_3, ccW_law__63_2, ccW_law__63_1, s0, s1, f1, e1, e2, e3, hg, lg_rf, am_kI_x, am_kV_x, am_kI_i, am_nI_i, am_kV_i, am_nV_i, ↓reduceIte, eq_self, if_true, if_false, c_in, c_tn, pn_add, pn_mul, pn_subc, pn_addm, c_le_t, c_le_f, c_lt_t, c_lt_f, c_eq_f, c_eqm, bi_z, bi_1, bi_b, bi_T, bi_F, ite_not, up_eq, up_ne, or_self, or_true, true_or, or_false, false_or, and_true, true_and, and_self, not_true_eq_false, not_false_eq_true, Bool.false_eq_true]
  · refine ⟨h2, .int r, .int v, ?_, J, f3, f4, n⟩
    simp -implicitDefEqProofs (disch := (first | omega | assumption | exact am_isS_3 | exact am_isS_25 | exact am_isX_356 | exact am_isX_359)) only [ggW_law__63, ggW_law__64, ggW_law__65, ggW_law__66, ggW_law__67, ggW_law__68, ccW_law__63_3, ccW_law__63_2, ccW_law__63_1, s0, s1, f1, e1, e2, e3, hr, am_kI_x, am_kV_x, am_kI_i, am_nI_i, am_kV_i, am_nV_i, ↓reduceIte, eq_self, if_true, if_false, c_in, c_tn, pn_add, pn_mul, pn_subc, pn_addm, c_le_t, c_le_f, c_lt_t, c_lt_f, c_eq_f, c_eqm, bi_z, bi_1, bi_b, bi_T, bi_F, ite_not, up_eq, up_ne, or_self, or_true, true_or, or_false, false_or, and_true, true_and, and_self, not_true_eq_false, not_false_eq_true, Bool.false_eq_true]
theorem cs_69 {i L : Nat} {h : am_H} (hi : i + 6 ≤ L) (hL : L ≤ 3072) (el : h.2 392 0 = (Int32.ofNat L)) (K : J2 h h) (d : Nat) : LawStep d 69 i h := by
  intro x5 x6
  obtain ⟨r, v, h1, h2, e1, e2, e3, e4, J, f1, f2, f3, f4, n⟩ := twoS d (fun r => r) (T_change (h.2 391 (i + 1)) (h.2 391 (i + 2))) (sdF0 [h.2 391 (i + 1), h.2 391 (i + 2)]) (sdR0 [h.2 391 (i + 1), h.2 391 (i + 2)]) (by decide +kernel) (wd_change d (h.2 391 (i + 1)) (h.2 391 (i + 2))) K
  have s0 := sl_of el hL
  have s1 := sl_of ((congrFun f2 0).trans el) hL
  by_cases hr : r = (Int32.ofNat 0)
  · have hg := e4 hr
    subst hr
    have hg : h2.2 389 0 = v := hg
    refine ⟨h2, .int (Int32.ofNat 0), .int v, ?_, J, f3, f4, n⟩
    simp -implicitDefEqProofs (disch := (first | omega | assumption | exact am_isS_3 | exact am_isS_25 | exact am_isX_356 | exact am_isX_359)) only [ggW_law__69, ggW_law__70, ggW_law__71, ggW_law__72, ggW_law__73, ggW_law__74, ccW_law__69_3, ccW_law__69_2, ccW_law__69_1, s0, s1, f1, e1, e2, e3, hg, lg_rf, am_kI_x, am_kV_x, am_kI_i, am_nI_i, am_kV_i, am_nV_i, ↓reduceIte, eq_self, if_true, if_false, c_in, c_tn, pn_add, pn_mul, pn_subc, pn_addm, c_le_t, c_le_f, c_lt_t, c_lt_f, c_eq_f, c_eqm, bi_z, bi_1, bi_b, bi_T, bi_F, ite_not, up_eq, up_ne, or_self, or_true, true_or, or_false, false_or, and_true, true_and, and_self, not_true_eq_false, not_false_eq_true, Bool.false_eq_true]
  · refine ⟨h2, .int r, .int v, ?_, J, f3, f4, n⟩
    simp -implicitDefEqProofs (disch := (first | omega | assumption | exact am_isS_3 | exact am_isS_25 | exact am_isX_356 | exact am_isX_359)) only [ggW_law__69, ggW_law__70, ggW_law__71, ggW_law__72, ggW_law__73, ggW_law__74, ccW_law__69_3, ccW_law__69_2, ccW_law__69_1, s0, s1, f1, e1, e2, e3, hr, am_kI_x, am_kV_x, am_kI_i, am_nI_i, am_kV_i, am_nV_i, ↓reduceIte, eq_self, if_true, if_false, c_in, c_tn, pn_add, pn_mul, pn_subc, pn_addm, c_le_t, c_le_f, c_lt_t, c_lt_f, c_eq_f, c_eqm, bi_z, bi_1, bi_b, bi_T, bi_F, ite_not, up_eq, up_ne, or_self, or_true, true_or, or_false, false_or, and_true, true_and, and_self, not_true_eq_false, not_false_eq_true, Bool.false_eq_true]
theorem cs_75 {i L : Nat} {h : am_H} (hi : i + 6 ≤ L) (hL : L ≤ 3072) (el : h.2 392 0 = (Int32.ofNat L)) (K : J2 h h) (d : Nat) : LawStep d 75 i h := by
  intro x5 x6
  obtain ⟨r, v, h1, h2, e1, e2, e3, e4, J, f1, f2, f3, f4, n⟩ := twoS d (fun r => r) (T_cut (h.2 391 (i + 1))) (sdF0 [h.2 391 (i + 1)]) (sdR0 [h.2 391 (i + 1)]) (by decide +kernel) (wd_cut d (h.2 391 (i + 1))) K
  have s0 := sl_of el hL
  have s1 := sl_of ((congrFun f2 0).trans el) hL
  by_cases hr : r = (Int32.ofNat 0)
  · have hg := e4 hr
    subst hr
    have hg : h2.2 389 0 = v := hg
    refine ⟨h2, .int (Int32.ofNat 0), .int v, ?_, J, f3, f4, n⟩
    simp -implicitDefEqProofs (disch := (first | omega | assumption | exact am_isS_3 | exact am_isS_25 | exact am_isX_356 | exact am_isX_359)) only [ggW_law__75, ggW_law__76, ggW_law__77, ggW_law__78, ggW_law__79, ggW_law__80, ccW_law__75_3, ccW_law__75_2, ccW_law__75_1, s0, s1, f1, e1, e2, e3, hg, lg_rf, am_kI_x, am_kV_x, am_kI_i, am_nI_i, am_kV_i, am_nV_i, ↓reduceIte, eq_self, if_true, if_false, c_in, c_tn, pn_add, pn_mul, pn_subc, pn_addm, c_le_t, c_le_f, c_lt_t, c_lt_f, c_eq_f, c_eqm, bi_z, bi_1, bi_b, bi_T, bi_F, ite_not, up_eq, up_ne, or_self, or_true, true_or, or_false, false_or, and_true, true_and, and_self, not_true_eq_false, not_false_eq_true, Bool.false_eq_true]
  · refine ⟨h2, .int r, .int v, ?_, J, f3, f4, n⟩
    simp -implicitDefEqProofs (disch := (first | omega | assumption | exact am_isS_3 | exact am_isS_25 | exact am_isX_356 | exact am_isX_359)) only [ggW_law__75, ggW_law__76, ggW_law__77, ggW_law__78, ggW_law__79, ggW_law__80, ccW_law__75_3, ccW_law__75_2, ccW_law__75_1, s0, s1, f1, e1, e2, e3, hr, am_kI_x, am_kV_x, am_kI_i, am_nI_i, am_kV_i, am_nV_i, ↓reduceIte, eq_self, if_true, if_false, c_in, c_tn, pn_add, pn_mul, pn_subc, pn_addm, c_le_t, c_le_f, c_lt_t, c_lt_f, c_eq_f, c_eqm, bi_z, bi_1, bi_b, bi_T, bi_F, ite_not, up_eq, up_ne, or_self, or_true, true_or, or_false, false_or, and_true, true_and, and_self, not_true_eq_false, not_false_eq_true, Bool.false_eq_true]
theorem cs_81 {i L : Nat} {h : am_H} (hi : i + 6 ≤ L) (hL : L ≤ 3072) (el : h.2 392 0 = (Int32.ofNat L)) (K : J2 h h) (d : Nat) : LawStep d 81 i h := by
  intro x5 x6
  obtain ⟨r, v, h1, h2, e1, e2, e3, e4, J, f1, f2, f3, f4, n⟩ := twoS d (fun r => r) (T_moves (h.2 391 (i + 1))) (sdF0 [h.2 391 (i + 1)]) (sdR0 [h.2 391 (i + 1)]) (by decide +kernel) (wd_moves d (h.2 391 (i + 1))) K
  have s0 := sl_of el hL
  have s1 := sl_of ((congrFun f2 0).trans el) hL
  by_cases hr : r = (Int32.ofNat 0)
  · have hg := e4 hr
    subst hr
    have hg : h2.2 389 0 = v := hg
    refine ⟨h2, .int (Int32.ofNat 0), .int v, ?_, J, f3, f4, n⟩
    simp -implicitDefEqProofs (disch := (first | omega | assumption | exact am_isS_3 | exact am_isS_25 | exact am_isX_356 | exact am_isX_359)) only [ggW_law__81, ggW_law__82, ggW_law__83, ggW_law__84, ggW_law__85, ggW_law__86, ccW_law__81_3, ccW_law__81_2, ccW_law__81_1, s0, s1, f1, e1, e2, e3, hg, lg_rf, am_kI_x, am_kV_x, am_kI_i, am_nI_i, am_kV_i, am_nV_i, ↓reduceIte, eq_self, if_true, if_false, c_in, c_tn, pn_add, pn_mul, pn_subc, pn_addm, c_le_t, c_le_f, c_lt_t, c_lt_f, c_eq_f, c_eqm, bi_z, bi_1, bi_b, bi_T, bi_F, ite_not, up_eq, up_ne, or_self, or_true, true_or, or_false, false_or, and_true, true_and, and_self, not_true_eq_false, not_false_eq_true, Bool.false_eq_true]
  · refine ⟨h2, .int r, .int v, ?_, J, f3, f4, n⟩
    simp -implicitDefEqProofs (disch := (first | omega | assumption | exact am_isS_3 | exact am_isS_25 | exact am_isX_356 | exact am_isX_359)) only [ggW_law__81, ggW_law__82, ggW_law__83, ggW_law__84, ggW_law__85, ggW_law__86, ccW_law__81_3, ccW_law__81_2, ccW_law__81_1, s0, s1, f1, e1, e2, e3, hr, am_kI_x, am_kV_x, am_kI_i, am_nI_i, am_kV_i, am_nV_i, ↓reduceIte, eq_self, if_true, if_false, c_in, c_tn, pn_add, pn_mul, pn_subc, pn_addm, c_le_t, c_le_f, c_lt_t, c_lt_f, c_eq_f, c_eqm, bi_z, bi_1, bi_b, bi_T, bi_F, ite_not, up_eq, up_ne, or_self, or_true, true_or, or_false, false_or, and_true, true_and, and_self, not_true_eq_false, not_false_eq_true, Bool.false_eq_true]
theorem cs_87 {i L : Nat} {h : am_H} (hi : i + 6 ≤ L) (hL : L ≤ 3072) (el : h.2 392 0 = (Int32.ofNat L)) (K : J2 h h) (d : Nat) : LawStep d 87 i h := by
  intro x5 x6
  obtain ⟨r, v, h1, h2, e1, e2, e3, e4, J, f1, f2, f3, f4, n⟩ := twoS d (fun r => r) (T_first (h.2 391 (i + 1))) (sdF0 [h.2 391 (i + 1)]) (sdR0 [h.2 391 (i + 1)]) (by decide +kernel) (wd_first d (h.2 391 (i + 1))) K
  have s0 := sl_of el hL
  have s1 := sl_of ((congrFun f2 0).trans el) hL
  by_cases hr : r = (Int32.ofNat 0)
  · have hg := e4 hr
    subst hr
    have hg : h2.2 389 0 = v := hg
    refine ⟨h2, .int (Int32.ofNat 0), .int v, ?_, J, f3, f4, n⟩
    simp -implicitDefEqProofs (disch := (first | omega | assumption | exact am_isS_3 | exact am_isS_25 | exact am_isX_356 | exact am_isX_359)) only [ggW_law__87, ggW_law__88, ggW_law__89, ggW_law__90, ggW_law__91, ggW_law__92, ccW_law__87_3, ccW_law__87_2, ccW_law__87_1, s0, s1, f1, e1, e2, e3, hg, lg_rf, am_kI_x, am_kV_x, am_kI_i, am_nI_i, am_kV_i, am_nV_i, ↓reduceIte, eq_self, if_true, if_false, c_in, c_tn, pn_add, pn_mul, pn_subc, pn_addm, c_le_t, c_le_f, c_lt_t, c_lt_f, c_eq_f, c_eqm, bi_z, bi_1, bi_b, bi_T, bi_F, ite_not, up_eq, up_ne, or_self, or_true, true_or, or_false, false_or, and_true, true_and, and_self, not_true_eq_false, not_false_eq_true, Bool.false_eq_true]
  · refine ⟨h2, .int r, .int v, ?_, J, f3, f4, n⟩
    simp -implicitDefEqProofs (disch := (first | omega | assumption | exact am_isS_3 | exact am_isS_25 | exact am_isX_356 | exact am_isX_359)) only [ggW_law__87, ggW_law__88, ggW_law__89, ggW_law__90, ggW_law__91, ggW_law__92, ccW_law__87_3, ccW_law__87_2, ccW_law__87_1, s0, s1, f1, e1, e2, e3, hr, am_kI_x, am_kV_x, am_kI_i, am_nI_i, am_kV_i, am_nV_i, ↓reduceIte, eq_self, if_true, if_false, c_in, c_tn, pn_add, pn_mul, pn_subc, pn_addm, c_le_t, c_le_f, c_lt_t, c_lt_f, c_eq_f, c_eqm, bi_z, bi_1, bi_b, bi_T, bi_F, ite_not, up_eq, up_ne, or_self, or_true, true_or, or_false, false_or, and_true, true_and, and_self, not_true_eq_false, not_false_eq_true, Bool.false_eq_true]
theorem cs_93 {i L : Nat} {h : am_H} (hi : i + 6 ≤ L) (hL : L ≤ 3072) (el : h.2 392 0 = (Int32.ofNat L)) (K : J2 h h) (d : Nat) : LawStep d 93 i h := by
  intro x5 x6
  obtain ⟨r, v, h1, h2, e1, e2, e3, e4, J, f1, f2, f3, f4, n⟩ := twoS d (fun r => r) (T_can (h.2 391 (i + 1))) (sdF0 [h.2 391 (i + 1)]) (sdR0 [h.2 391 (i + 1)]) (by decide +kernel) (wd_can d (h.2 391 (i + 1))) K
  have s0 := sl_of el hL
  have s1 := sl_of ((congrFun f2 0).trans el) hL
  by_cases hr : r = (Int32.ofNat 0)
  · have hg := e4 hr
    subst hr
    have hg : h2.2 389 0 = v := hg
    refine ⟨h2, .int (Int32.ofNat 0), .int v, ?_, J, f3, f4, n⟩
    simp -implicitDefEqProofs (disch := (first | omega | assumption | exact am_isS_3 | exact am_isS_25 | exact am_isX_356 | exact am_isX_359)) only [ggW_law__93, ggW_law__94, ggW_law__95, ggW_law__96, ggW_law__97, ggW_law__98, ccW_law__93_3, ccW_law__93_2, ccW_law__93_1, s0, s1, f1, e1, e2, e3, hg, lg_rf, am_kI_x, am_kV_x, am_kI_i, am_nI_i, am_kV_i, am_nV_i, ↓reduceIte, eq_self, if_true, if_false, c_in, c_tn, pn_add, pn_mul, pn_subc, pn_addm, c_le_t, c_le_f, c_lt_t, c_lt_f, c_eq_f, c_eqm, bi_z, bi_1, bi_b, bi_T, bi_F, ite_not, up_eq, up_ne, or_self, or_true, true_or, or_false, false_or, and_true, true_and, and_self, not_true_eq_false, not_false_eq_true, Bool.false_eq_true]
  · refine ⟨h2, .int r, .int v, ?_, J, f3, f4, n⟩
    simp -implicitDefEqProofs (disch := (first | omega | assumption | exact am_isS_3 | exact am_isS_25 | exact am_isX_356 | exact am_isX_359)) only [ggW_law__93, ggW_law__94, ggW_law__95, ggW_law__96, ggW_law__97, ggW_law__98, ccW_law__93_3, ccW_law__93_2, ccW_law__93_1, s0, s1, f1, e1, e2, e3, hr, am_kI_x, am_kV_x, am_kI_i, am_nI_i, am_kV_i, am_nV_i, ↓reduceIte, eq_self, if_true, if_false, c_in, c_tn, pn_add, pn_mul, pn_subc, pn_addm, c_le_t, c_le_f, c_lt_t, c_lt_f, c_eq_f, c_eqm, bi_z, bi_1, bi_b, bi_T, bi_F, ite_not, up_eq, up_ne, or_self, or_true, true_or, or_false, false_or, and_true, true_and, and_self, not_true_eq_false, not_false_eq_true, Bool.false_eq_true]
theorem cs_99 {i L : Nat} {h : am_H} (hi : i + 6 ≤ L) (hL : L ≤ 3072) (el : h.2 392 0 = (Int32.ofNat L)) (K : J2 h h) (d : Nat) : LawStep d 99 i h := by
  intro x5 x6
  obtain ⟨r, v, h1, h2, e1, e2, e3, e4, J, f1, f2, f3, f4, n⟩ := twoS d (fun r => r) (T_feels (h.2 391 (i + 1))) (sdF0 [h.2 391 (i + 1)]) (sdR0 [h.2 391 (i + 1)]) (by decide +kernel) (wd_feels d (h.2 391 (i + 1))) K
  have s0 := sl_of el hL
  have s1 := sl_of ((congrFun f2 0).trans el) hL
  by_cases hr : r = (Int32.ofNat 0)
  · have hg := e4 hr
    subst hr
    have hg : h2.2 389 0 = v := hg
    refine ⟨h2, .int (Int32.ofNat 0), .int v, ?_, J, f3, f4, n⟩
    simp -implicitDefEqProofs (disch := (first | omega | assumption | exact am_isS_3 | exact am_isS_25 | exact am_isX_356 | exact am_isX_359)) only [ggW_law__99, ggW_law__100, ggW_law__101, ggW_law__102, ggW_law__103, ggW_law__104, ccW_law__99_3, ccW_law__99_2, ccW_law__99_1, s0, s1, f1, e1, e2, e3, hg, lg_rf, am_kI_x, am_kV_x, am_kI_i, am_nI_i, am_kV_i, am_nV_i, ↓reduceIte, eq_self, if_true, if_false, c_in, c_tn, pn_add, pn_mul, pn_subc, pn_addm, c_le_t, c_le_f, c_lt_t, c_lt_f, c_eq_f, c_eqm, bi_z, bi_1, bi_b, bi_T, bi_F, ite_not, up_eq, up_ne, or_self, or_true, true_or, or_false, false_or, and_true, true_and, and_self, not_true_eq_false, not_false_eq_true, Bool.false_eq_true]
  · refine ⟨h2, .int r, .int v, ?_, J, f3, f4, n⟩
    simp -implicitDefEqProofs (disch := (first | omega | assumption | exact am_isS_3 | exact am_isS_25 | exact am_isX_356 | exact am_isX_359)) only [ggW_law__99, ggW_law__100, ggW_law__101, ggW_law__102, ggW_law__103, ggW_law__104, ccW_law__99_3, ccW_law__99_2, ccW_law__99_1, s0, s1, f1, e1, e2, e3, hr, am_kI_x, am_kV_x, am_kI_i, am_nI_i, am_kV_i, am_nV_i, ↓reduceIte, eq_self, if_true, if_false, c_in, c_tn, pn_add, pn_mul, pn_subc, pn_addm, c_le_t, c_le_f, c_lt_t, c_lt_f, c_eq_f, c_eqm, bi_z, bi_1, bi_b, bi_T, bi_F, ite_not, up_eq, up_ne, or_self, or_true, true_or, or_false, false_or, and_true, true_and, and_self, not_true_eq_false, not_false_eq_true, Bool.false_eq_true]
theorem cs_105 {i L : Nat} {h : am_H} (hi : i + 6 ≤ L) (hL : L ≤ 3072) (el : h.2 392 0 = (Int32.ofNat L)) (K : J2 h h) (d : Nat) : LawStep d 105 i h := by
  intro x5 x6
  obtain ⟨r, v, h1, h2, e1, e2, e3, e4, J, f1, f2, f3, f4, n⟩ := twoS d (fun r => r) (T_odds (h.2 391 (i + 1))) (sdF0 [h.2 391 (i + 1)]) (sdR0 [h.2 391 (i + 1)]) (by decide +kernel) (wd_odds d (h.2 391 (i + 1))) K
  have s0 := sl_of el hL
  have s1 := sl_of ((congrFun f2 0).trans el) hL
  by_cases hr : r = (Int32.ofNat 0)
  · have hg := e4 hr
    subst hr
    have hg : h2.2 389 0 = v := hg
    refine ⟨h2, .int (Int32.ofNat 0), .int v, ?_, J, f3, f4, n⟩
    simp -implicitDefEqProofs (disch := (first | omega | assumption | exact am_isS_3 | exact am_isS_25 | exact am_isX_356 | exact am_isX_359)) only [ggW_law__105, ggW_law__106, ggW_law__107, ggW_law__108, ggW_law__109, ggW_law__110, ccW_law__105_3, ccW_law__105_2, ccW_law__105_1, s0, s1, f1, e1, e2, e3, hg, lg_rf, am_kI_x, am_kV_x, am_kI_i, am_nI_i, am_kV_i, am_nV_i, ↓reduceIte, eq_self, if_true, if_false, c_in, c_tn, pn_add, pn_mul, pn_subc, pn_addm, c_le_t, c_le_f, c_lt_t, c_lt_f, c_eq_f, c_eqm, bi_z, bi_1, bi_b, bi_T, bi_F, ite_not, up_eq, up_ne, or_self, or_true, true_or, or_false, false_or, and_true, true_and, and_self, not_true_eq_false, not_false_eq_true, Bool.false_eq_true]
  · refine ⟨h2, .int r, .int v, ?_, J, f3, f4, n⟩
    simp -implicitDefEqProofs (disch := (first | omega | assumption | exact am_isS_3 | exact am_isS_25 | exact am_isX_356 | exact am_isX_359)) only [ggW_law__105, ggW_law__106, ggW_law__107, ggW_law__108, ggW_law__109, ggW_law__110, ccW_law__105_3, ccW_law__105_2, ccW_law__105_1, s0, s1, f1, e1, e2, e3, hr, am_kI_x, am_kV_x, am_kI_i, am_nI_i, am_kV_i, am_nV_i, ↓reduceIte, eq_self, if_true, if_false, c_in, c_tn, pn_add, pn_mul, pn_subc, pn_addm, c_le_t, c_le_f, c_lt_t, c_lt_f, c_eq_f, c_eqm, bi_z, bi_1, bi_b, bi_T, bi_F, ite_not, up_eq, up_ne, or_self, or_true, true_or, or_false, false_or, and_true, true_and, and_self, not_true_eq_false, not_false_eq_true, Bool.false_eq_true]
theorem cs_111 {i L : Nat} {h : am_H} (hi : i + 6 ≤ L) (hL : L ≤ 3072) (el : h.2 392 0 = (Int32.ofNat L)) (K : J2 h h) (d : Nat) : LawStep d 111 i h := by
  intro x5 x6
  obtain ⟨r, v, h1, h2, e1, e2, e3, e4, J, f1, f2, f3, f4, n⟩ := twoS d (fun r => r) (T_ask) (sdF0 []) (sdR0 []) (by decide +kernel) (wd_ask d) K
  have s0 := sl_of el hL
  have s1 := sl_of ((congrFun f2 0).trans el) hL
  by_cases hr : r = (Int32.ofNat 0)
  · have hg := e4 hr
    subst hr
    have hg : h2.2 389 0 = v := hg
    refine ⟨h2, .int (Int32.ofNat 0), .int v, ?_, J, f3, f4, n⟩
    simp -implicitDefEqProofs (disch := (first | omega | assumption | exact am_isS_3 | exact am_isS_25 | exact am_isX_356 | exact am_isX_359)) only [ggW_law__111, ggW_law__112, ggW_law__113, ggW_law__114, ggW_law__115, ggW_law__116, ccW_law__111_3, ccW_law__111_2, ccW_law__111_1, s0, s1, f1, e1, e2, e3, hg, lg_rf, am_kI_x, am_kV_x, am_kI_i, am_nI_i, am_kV_i, am_nV_i, ↓reduceIte, eq_self, if_true, if_false, c_in, c_tn, pn_add, pn_mul, pn_subc, pn_addm, c_le_t, c_le_f, c_lt_t, c_lt_f, c_eq_f, c_eqm, bi_z, bi_1, bi_b, bi_T, bi_F, ite_not, up_eq, up_ne, or_self, or_true, true_or, or_false, false_or, and_true, true_and, and_self, not_true_eq_false, not_false_eq_true, Bool.false_eq_true]
  · refine ⟨h2, .int r, .int v, ?_, J, f3, f4, n⟩
    simp -implicitDefEqProofs (disch := (first | omega | assumption | exact am_isS_3 | exact am_isS_25 | exact am_isX_356 | exact am_isX_359)) only [ggW_law__111, ggW_law__112, ggW_law__113, ggW_law__114, ggW_law__115, ggW_law__116, ccW_law__111_3, ccW_law__111_2, ccW_law__111_1, s0, s1, f1, e1, e2, e3, hr, am_kI_x, am_kV_x, am_kI_i, am_nI_i, am_kV_i, am_nV_i, ↓reduceIte, eq_self, if_true, if_false, c_in, c_tn, pn_add, pn_mul, pn_subc, pn_addm, c_le_t, c_le_f, c_lt_t, c_lt_f, c_eq_f, c_eqm, bi_z, bi_1, bi_b, bi_T, bi_F, ite_not, up_eq, up_ne, or_self, or_true, true_or, or_false, false_or, and_true, true_and, and_self, not_true_eq_false, not_false_eq_true, Bool.false_eq_true]
theorem cs_117 {i L : Nat} {h : am_H} (hi : i + 6 ≤ L) (hL : L ≤ 3072) (el : h.2 392 0 = (Int32.ofNat L)) (K : J2 h h) (d : Nat) : LawStep d 117 i h := by
  intro x5 x6
  obtain ⟨r, v, h1, h2, e1, e2, e3, e4, J, f1, f2, f3, f4, n⟩ := twoS d (fun r => r) (T_waits (h.2 391 (i + 1))) (sdF0 [h.2 391 (i + 1)]) (sdR0 [h.2 391 (i + 1)]) (by decide +kernel) (wd_waits d (h.2 391 (i + 1))) K
  have s0 := sl_of el hL
  have s1 := sl_of ((congrFun f2 0).trans el) hL
  by_cases hr : r = (Int32.ofNat 0)
  · have hg := e4 hr
    subst hr
    have hg : h2.2 389 0 = v := hg
    refine ⟨h2, .int (Int32.ofNat 0), .int v, ?_, J, f3, f4, n⟩
    simp -implicitDefEqProofs (disch := (first | omega | assumption | exact am_isS_3 | exact am_isS_25 | exact am_isX_356 | exact am_isX_359)) only [ggW_law__117, ggW_law__118, ggW_law__119, ggW_law__120, ggW_law__121, ggW_law__122, ccW_law__117_3, ccW_law__117_2, ccW_law__117_1, s0, s1, f1, e1, e2, e3, hg, lg_rf, am_kI_x, am_kV_x, am_kI_i, am_nI_i, am_kV_i, am_nV_i, ↓reduceIte, eq_self, if_true, if_false, c_in, c_tn, pn_add, pn_mul, pn_subc, pn_addm, c_le_t, c_le_f, c_lt_t, c_lt_f, c_eq_f, c_eqm, bi_z, bi_1, bi_b, bi_T, bi_F, ite_not, up_eq, up_ne, or_self, or_true, true_or, or_false, false_or, and_true, true_and, and_self, not_true_eq_false, not_false_eq_true, Bool.false_eq_true]
  · refine ⟨h2, .int r, .int v, ?_, J, f3, f4, n⟩
    simp -implicitDefEqProofs (disch := (first | omega | assumption | exact am_isS_3 | exact am_isS_25 | exact am_isX_356 | exact am_isX_359)) only [ggW_law__117, ggW_law__118, ggW_law__119, ggW_law__120, ggW_law__121, ggW_law__122, ccW_law__117_3, ccW_law__117_2, ccW_law__117_1, s0, s1, f1, e1, e2, e3, hr, am_kI_x, am_kV_x, am_kI_i, am_nI_i, am_kV_i, am_nV_i, ↓reduceIte, eq_self, if_true, if_false, c_in, c_tn, pn_add, pn_mul, pn_subc, pn_addm, c_le_t, c_le_f, c_lt_t, c_lt_f, c_eq_f, c_eqm, bi_z, bi_1, bi_b, bi_T, bi_F, ite_not, up_eq, up_ne, or_self, or_true, true_or, or_false, false_or, and_true, true_and, and_self, not_true_eq_false, not_false_eq_true, Bool.false_eq_true]
theorem cs_125 {i L : Nat} {h : am_H} (hi : i + 6 ≤ L) (hL : L ≤ 3072) (el : h.2 392 0 = (Int32.ofNat L)) (K : J2 h h) (d : Nat) : LawStep d 125 i h := by
  intro x5 x6
  obtain ⟨r, v, h1, h2, e1, e2, e3, e4, J, f1, f2, f3, f4, n⟩ := twoS d (fun r => r) (T_keep (h.2 391 (i + 1))) (sdF0 [h.2 391 (i + 1)]) (sdR0 [h.2 391 (i + 1)]) (by decide +kernel) (wd_keep d (h.2 391 (i + 1))) K
  have s0 := sl_of el hL
  have s1 := sl_of ((congrFun f2 0).trans el) hL
  by_cases hr : r = (Int32.ofNat 0)
  · have hg := e4 hr
    subst hr
    have hg : h2.2 389 0 = v := hg
    refine ⟨h2, .int (Int32.ofNat 0), .int v, ?_, J, f3, f4, n⟩
    simp -implicitDefEqProofs (disch := (first | omega | assumption | exact am_isS_3 | exact am_isS_25 | exact am_isX_356 | exact am_isX_359)) only [ggW_law__125, ggW_law__126, ggW_law__127, ggW_law__128, ggW_law__129, ggW_law__130, ccW_law__125_3, ccW_law__125_2, ccW_law__125_1, s0, s1, f1, e1, e2, e3, hg, lg_rf, am_kI_x, am_kV_x, am_kI_i, am_nI_i, am_kV_i, am_nV_i, ↓reduceIte, eq_self, if_true, if_false, c_in, c_tn, pn_add, pn_mul, pn_subc, pn_addm, c_le_t, c_le_f, c_lt_t, c_lt_f, c_eq_f, c_eqm, bi_z, bi_1, bi_b, bi_T, bi_F, ite_not, up_eq, up_ne, or_self, or_true, true_or, or_false, false_or, and_true, true_and, and_self, not_true_eq_false, not_false_eq_true, Bool.false_eq_true]
  · refine ⟨h2, .int r, .int v, ?_, J, f3, f4, n⟩
    simp -implicitDefEqProofs (disch := (first | omega | assumption | exact am_isS_3 | exact am_isS_25 | exact am_isX_356 | exact am_isX_359)) only [ggW_law__125, ggW_law__126, ggW_law__127, ggW_law__128, ggW_law__129, ggW_law__130, ccW_law__125_3, ccW_law__125_2, ccW_law__125_1, s0, s1, f1, e1, e2, e3, hr, am_kI_x, am_kV_x, am_kI_i, am_nI_i, am_kV_i, am_nV_i, ↓reduceIte, eq_self, if_true, if_false, c_in, c_tn, pn_add, pn_mul, pn_subc, pn_addm, c_le_t, c_le_f, c_lt_t, c_lt_f, c_eq_f, c_eqm, bi_z, bi_1, bi_b, bi_T, bi_F, ite_not, up_eq, up_ne, or_self, or_true, true_or, or_false, false_or, and_true, true_and, and_self, not_true_eq_false, not_false_eq_true, Bool.false_eq_true]
theorem cs_131 {i L : Nat} {h : am_H} (hi : i + 6 ≤ L) (hL : L ≤ 3072) (el : h.2 392 0 = (Int32.ofNat L)) (K : J2 h h) (d : Nat) : LawStep d 131 i h := by
  intro x5 x6
  obtain ⟨r, v, h1, h2, e1, e2, e3, e4, J, f1, f2, f3, f4, n⟩ := twoS d (fun r => r) (T_fates (h.2 391 (i + 1))) (sdF0 [h.2 391 (i + 1)]) (sdR0 [h.2 391 (i + 1)]) (by decide +kernel) (wd_fates d (h.2 391 (i + 1))) K
  have s0 := sl_of el hL
  have s1 := sl_of ((congrFun f2 0).trans el) hL
  by_cases hr : r = (Int32.ofNat 0)
  · have hg := e4 hr
    subst hr
    have hg : h2.2 389 0 = v := hg
    refine ⟨h2, .int (Int32.ofNat 0), .int v, ?_, J, f3, f4, n⟩
    simp -implicitDefEqProofs (disch := (first | omega | assumption | exact am_isS_3 | exact am_isS_25 | exact am_isX_356 | exact am_isX_359)) only [ggW_law__131, ggW_law__132, ggW_law__133, ggW_law__134, ggW_law__135, ggW_law__136, ccW_law__131_3, ccW_law__131_2, ccW_law__131_1, s0, s1, f1, e1, e2, e3, hg, lg_rf, am_kI_x, am_kV_x, am_kI_i, am_nI_i, am_kV_i, am_nV_i, ↓reduceIte, eq_self, if_true, if_false, c_in, c_tn, pn_add, pn_mul, pn_subc, pn_addm, c_le_t, c_le_f, c_lt_t, c_lt_f, c_eq_f, c_eqm, bi_z, bi_1, bi_b, bi_T, bi_F, ite_not, up_eq, up_ne, or_self, or_true, true_or, or_false, false_or, and_true, true_and, and_self, not_true_eq_false, not_false_eq_true, Bool.false_eq_true]
  · refine ⟨h2, .int r, .int v, ?_, J, f3, f4, n⟩
    simp -implicitDefEqProofs (disch := (first | omega | assumption | exact am_isS_3 | exact am_isS_25 | exact am_isX_356 | exact am_isX_359)) only [ggW_law__131, ggW_law__132, ggW_law__133, ggW_law__134, ggW_law__135, ggW_law__136, ccW_law__131_3, ccW_law__131_2, ccW_law__131_1, s0, s1, f1, e1, e2, e3, hr, am_kI_x, am_kV_x, am_kI_i, am_nI_i, am_kV_i, am_nV_i, ↓reduceIte, eq_self, if_true, if_false, c_in, c_tn, pn_add, pn_mul, pn_subc, pn_addm, c_le_t, c_le_f, c_lt_t, c_lt_f, c_eq_f, c_eqm, bi_z, bi_1, bi_b, bi_T, bi_F, ite_not, up_eq, up_ne, or_self, or_true, true_or, or_false, false_or, and_true, true_and, and_self, not_true_eq_false, not_false_eq_true, Bool.false_eq_true]
theorem cs_139 {i L : Nat} {h : am_H} (hi : i + 6 ≤ L) (hL : L ≤ 3072) (el : h.2 392 0 = (Int32.ofNat L)) (K : J2 h h) (d : Nat) : LawStep d 139 i h := by
  intro x5 x6
  obtain ⟨r, v, h1, h2, e1, e2, e3, e4, J, f1, f2, f3, f4, n⟩ := twoS d (fun r => r) (T_gives (h.2 391 (i + 1))) (sdF0 [h.2 391 (i + 1)]) (sdR0 [h.2 391 (i + 1)]) (by decide +kernel) (wd_gives d (h.2 391 (i + 1))) K
  have s0 := sl_of el hL
  have s1 := sl_of ((congrFun f2 0).trans el) hL
  by_cases hr : r = (Int32.ofNat 0)
  · have hg := e4 hr
    subst hr
    have hg : h2.2 389 0 = v := hg
    refine ⟨h2, .int (Int32.ofNat 0), .int v, ?_, J, f3, f4, n⟩
    simp -implicitDefEqProofs (disch := (first | omega | assumption | exact am_isS_3 | exact am_isS_25 | exact am_isX_356 | exact am_isX_359)) only [ggW_law__139, ggW_law__140, ggW_law__141, ggW_law__142, ggW_law__143, ggW_law__144, ccW_law__139_3, ccW_law__139_2, ccW_law__139_1, s0, s1, f1, e1, e2, e3, hg, lg_rf, am_kI_x, am_kV_x, am_kI_i, am_nI_i, am_kV_i, am_nV_i, ↓reduceIte, eq_self, if_true, if_false, c_in, c_tn, pn_add, pn_mul, pn_subc, pn_addm, c_le_t, c_le_f, c_lt_t, c_lt_f, c_eq_f, c_eqm, bi_z, bi_1, bi_b, bi_T, bi_F, ite_not, up_eq, up_ne, or_self, or_true, true_or, or_false, false_or, and_true, true_and, and_self, not_true_eq_false, not_false_eq_true, Bool.false_eq_true]
  · refine ⟨h2, .int r, .int v, ?_, J, f3, f4, n⟩
    simp -implicitDefEqProofs (disch := (first | omega | assumption | exact am_isS_3 | exact am_isS_25 | exact am_isX_356 | exact am_isX_359)) only [ggW_law__139, ggW_law__140, ggW_law__141, ggW_law__142, ggW_law__143, ggW_law__144, ccW_law__139_3, ccW_law__139_2, ccW_law__139_1, s0, s1, f1, e1, e2, e3, hr, am_kI_x, am_kV_x, am_kI_i, am_nI_i, am_kV_i, am_nV_i, ↓reduceIte, eq_self, if_true, if_false, c_in, c_tn, pn_add, pn_mul, pn_subc, pn_addm, c_le_t, c_le_f, c_lt_t, c_lt_f, c_eq_f, c_eqm, bi_z, bi_1, bi_b, bi_T, bi_F, ite_not, up_eq, up_ne, or_self, or_true, true_or, or_false, false_or, and_true, true_and, and_self, not_true_eq_false, not_false_eq_true, Bool.false_eq_true]
theorem cs_145 {i L : Nat} {h : am_H} (hi : i + 6 ≤ L) (hL : L ≤ 3072) (el : h.2 392 0 = (Int32.ofNat L)) (K : J2 h h) (d : Nat) : LawStep d 145 i h := by
  intro x5 x6
  obtain ⟨r, v, h1, h2, e1, e2, e3, e4, J, f1, f2, f3, f4, n⟩ := twoS d (fun r => r) (T_trade (h.2 391 (i + 1))) (sdF0 [h.2 391 (i + 1)]) (sdR0 [h.2 391 (i + 1)]) (by decide +kernel) (wd_trade d (h.2 391 (i + 1))) K
  have s0 := sl_of el hL
  have s1 := sl_of ((congrFun f2 0).trans el) hL
  by_cases hr : r = (Int32.ofNat 0)
  · have hg := e4 hr
    subst hr
    have hg : h2.2 389 0 = v := hg
    refine ⟨h2, .int (Int32.ofNat 0), .int v, ?_, J, f3, f4, n⟩
    simp -implicitDefEqProofs (disch := (first | omega | assumption | exact am_isS_3 | exact am_isS_25 | exact am_isX_356 | exact am_isX_359)) only [ggW_law__145, ggW_law__146, ggW_law__147, ggW_law__148, ggW_law__149, ggW_law__150, ccW_law__145_3, ccW_law__145_2, ccW_law__145_1, s0, s1, f1, e1, e2, e3, hg, lg_rf, am_kI_x, am_kV_x, am_kI_i, am_nI_i, am_kV_i, am_nV_i, ↓reduceIte, eq_self, if_true, if_false, c_in, c_tn, pn_add, pn_mul, pn_subc, pn_addm, c_le_t, c_le_f, c_lt_t, c_lt_f, c_eq_f, c_eqm, bi_z, bi_1, bi_b, bi_T, bi_F, ite_not, up_eq, up_ne, or_self, or_true, true_or, or_false, false_or, and_true, true_and, and_self, not_true_eq_false, not_false_eq_true, Bool.false_eq_true]
  · refine ⟨h2, .int r, .int v, ?_, J, f3, f4, n⟩
    simp -implicitDefEqProofs (disch := (first | omega | assumption | exact am_isS_3 | exact am_isS_25 | exact am_isX_356 | exact am_isX_359)) only [ggW_law__145, ggW_law__146, ggW_law__147, ggW_law__148, ggW_law__149, ggW_law__150, ccW_law__145_3, ccW_law__145_2, ccW_law__145_1, s0, s1, f1, e1, e2, e3, hr, am_kI_x, am_kV_x, am_kI_i, am_nI_i, am_kV_i, am_nV_i, ↓reduceIte, eq_self, if_true, if_false, c_in, c_tn, pn_add, pn_mul, pn_subc, pn_addm, c_le_t, c_le_f, c_lt_t, c_lt_f, c_eq_f, c_eqm, bi_z, bi_1, bi_b, bi_T, bi_F, ite_not, up_eq, up_ne, or_self, or_true, true_or, or_false, false_or, and_true, true_and, and_self, not_true_eq_false, not_false_eq_true, Bool.false_eq_true]
theorem cs_151 {i L : Nat} {h : am_H} (hi : i + 6 ≤ L) (hL : L ≤ 3072) (el : h.2 392 0 = (Int32.ofNat L)) (K : J2 h h) (d : Nat) : LawStep d 151 i h := by
  intro x5 x6
  obtain ⟨r, v, h1, h2, e1, e2, e3, e4, J, f1, f2, f3, f4, n⟩ := twoS d (fun r => r) (T_ring (h.2 391 (i + 1))) (sdF0 [h.2 391 (i + 1)]) (sdR0 [h.2 391 (i + 1)]) (by decide +kernel) (wd_ring d (h.2 391 (i + 1))) K
  have s0 := sl_of el hL
  have s1 := sl_of ((congrFun f2 0).trans el) hL
  by_cases hr : r = (Int32.ofNat 0)
  · have hg := e4 hr
    subst hr
    have hg : h2.2 389 0 = v := hg
    refine ⟨h2, .int (Int32.ofNat 0), .int v, ?_, J, f3, f4, n⟩
    simp -implicitDefEqProofs (disch := (first | omega | assumption | exact am_isS_3 | exact am_isS_25 | exact am_isX_356 | exact am_isX_359)) only [ggW_law__151, ggW_law__152, ggW_law__153, ggW_law__154, ggW_law__155, ggW_law__156, ccW_law__151_3, ccW_law__151_2, ccW_law__151_1, s0, s1, f1, e1, e2, e3, hg, lg_rf, am_kI_x, am_kV_x, am_kI_i, am_nI_i, am_kV_i, am_nV_i, ↓reduceIte, eq_self, if_true, if_false, c_in, c_tn, pn_add, pn_mul, pn_subc, pn_addm, c_le_t, c_le_f, c_lt_t, c_lt_f, c_eq_f, c_eqm, bi_z, bi_1, bi_b, bi_T, bi_F, ite_not, up_eq, up_ne, or_self, or_true, true_or, or_false, false_or, and_true, true_and, and_self, not_true_eq_false, not_false_eq_true, Bool.false_eq_true]
  · refine ⟨h2, .int r, .int v, ?_, J, f3, f4, n⟩
    simp -implicitDefEqProofs (disch := (first | omega | assumption | exact am_isS_3 | exact am_isS_25 | exact am_isX_356 | exact am_isX_359)) only [ggW_law__151, ggW_law__152, ggW_law__153, ggW_law__154, ggW_law__155, ggW_law__156, ccW_law__151_3, ccW_law__151_2, ccW_law__151_1, s0, s1, f1, e1, e2, e3, hr, am_kI_x, am_kV_x, am_kI_i, am_nI_i, am_kV_i, am_nV_i, ↓reduceIte, eq_self, if_true, if_false, c_in, c_tn, pn_add, pn_mul, pn_subc, pn_addm, c_le_t, c_le_f, c_lt_t, c_lt_f, c_eq_f, c_eqm, bi_z, bi_1, bi_b, bi_T, bi_F, ite_not, up_eq, up_ne, or_self, or_true, true_or, or_false, false_or, and_true, true_and, and_self, not_true_eq_false, not_false_eq_true, Bool.false_eq_true]
theorem cs_157 {i L : Nat} {h : am_H} (hi : i + 6 ≤ L) (hL : L ≤ 3072) (el : h.2 392 0 = (Int32.ofNat L)) (K : J2 h h) (d : Nat) : LawStep d 157 i h := by
  intro x5 x6
  obtain ⟨r, v, h1, h2, e1, e2, e3, e4, J, f1, f2, f3, f4, n⟩ := twoS d sw01 (T_swap (h.2 391 (i + 1)) (h.2 391 (i + 2))) (sdF0 [h.2 391 (i + 1), h.2 391 (i + 2)]) (sdR0 [h.2 391 (i + 1), h.2 391 (i + 2)]) (by decide +kernel) (wd_swap d (h.2 391 (i + 1)) (h.2 391 (i + 2))) K
  have s0 := sl_of el hL
  have s1 := sl_of ((congrFun f2 0).trans el) hL
  by_cases hr : r = (Int32.ofNat 0)
  · have hg := e4 hr
    subst hr
    refine ⟨h2, .int (Int32.ofNat 0), .int v, ?_, J, f3, f4, n⟩
    by_cases hv : v = (Int32.ofNat 0)
    · subst hv
      have hg : h2.2 389 0 = (0 : Int64).toInt32 := hg
      simp -implicitDefEqProofs (disch := (first | omega | assumption | exact am_isS_3 | exact am_isS_25 | exact am_isX_356 | exact am_isX_359)) only [ggW_law__157, ggW_law__158, ggW_law__159, ggW_law__160, ggW_law__161, ggW_law__162, ggW_law__163, ggW_law__164, ggW_law__165, ccW_law__157_3, ccW_law__157_2, ccW_law__157_1, s0, s1, f1, e1, e2, e3, hg, lg_00, am_kI_x, am_kV_x, am_kI_i, am_nI_i, am_kV_i, am_nV_i, ↓reduceIte, eq_self, if_true, if_false, c_in, c_tn, pn_add, pn_mul, pn_subc, pn_addm, c_le_t, c_le_f, c_lt_t, c_lt_f, c_eq_f, c_eqm, bi_z, bi_1, bi_b, bi_T, bi_F, ite_not, up_eq, up_ne, or_self, or_true, true_or, or_false, false_or, and_true, true_and, and_self, not_true_eq_false, not_false_eq_true, Bool.false_eq_true]
    · have hg : h2.2 389 0 = (1 : Int64).toInt32 := hg.trans (if_neg hv)
      simp -implicitDefEqProofs (disch := (first | omega | assumption | exact am_isS_3 | exact am_isS_25 | exact am_isX_356 | exact am_isX_359)) only [ggW_law__157, ggW_law__158, ggW_law__159, ggW_law__160, ggW_law__161, ggW_law__162, ggW_law__163, ggW_law__164, ggW_law__165, ccW_law__157_3, ccW_law__157_2, ccW_law__157_1, s0, s1, f1, e1, e2, e3, hg, hv, lg_11, am_kI_x, am_kV_x, am_kI_i, am_nI_i, am_kV_i, am_nV_i, ↓reduceIte, eq_self, if_true, if_false, c_in, c_tn, pn_add, pn_mul, pn_subc, pn_addm, c_le_t, c_le_f, c_lt_t, c_lt_f, c_eq_f, c_eqm, bi_z, bi_1, bi_b, bi_T, bi_F, ite_not, up_eq, up_ne, or_self, or_true, true_or, or_false, false_or, and_true, true_and, and_self, not_true_eq_false, not_false_eq_true, Bool.false_eq_true]
  · refine ⟨h2, .int r, .int v, ?_, J, f3, f4, n⟩
    simp -implicitDefEqProofs (disch := (first | omega | assumption | exact am_isS_3 | exact am_isS_25 | exact am_isX_356 | exact am_isX_359)) only [ggW_law__157, ggW_law__158, ggW_law__159, ggW_law__160, ggW_law__161, ggW_law__162, ggW_law__163, ggW_law__164, ggW_law__165, ccW_law__157_3, ccW_law__157_2, ccW_law__157_1, s0, s1, f1, e1, e2, e3, hr, am_kI_x, am_kV_x, am_kI_i, am_nI_i, am_kV_i, am_nV_i, ↓reduceIte, eq_self, if_true, if_false, c_in, c_tn, pn_add, pn_mul, pn_subc, pn_addm, c_le_t, c_le_f, c_lt_t, c_lt_f, c_eq_f, c_eqm, bi_z, bi_1, bi_b, bi_T, bi_F, ite_not, up_eq, up_ne, or_self, or_true, true_or, or_false, false_or, and_true, true_and, and_self, not_true_eq_false, not_false_eq_true, Bool.false_eq_true]
theorem cs_184 {i L : Nat} {h : am_H} (hi : i + 6 ≤ L) (hL : L ≤ 3072) (el : h.2 392 0 = (Int32.ofNat L)) (K : J2 h h) (d : Nat) : LawStep d 184 i h := by
  intro x5 x6
  obtain ⟨r, v, h1, h2, e1, e2, e3, e4, J, f1, f2, f3, f4, n⟩ := twoS d (fun r => r) (T_tell) (sdF0 []) (sdR0 []) (by decide +kernel) (wd_tell d) K
  have s0 := sl_of el hL
  have s1 := sl_of ((congrFun f2 0).trans el) hL
  by_cases hr : r = (Int32.ofNat 0)
  · have hg := e4 hr
    subst hr
    have hg : h2.2 389 0 = v := hg
    refine ⟨h2, .int (Int32.ofNat 0), .int v, ?_, J, f3, f4, n⟩
    simp -implicitDefEqProofs (disch := (first | omega | assumption | exact am_isS_3 | exact am_isS_25 | exact am_isX_356 | exact am_isX_359)) only [ggW_law__184, ggW_law__185, ggW_law__186, ggW_law__187, ggW_law__188, ggW_law__189, ccW_law__184_3, ccW_law__184_2, ccW_law__184_1, s0, s1, f1, e1, e2, e3, hg, lg_rf, am_kI_x, am_kV_x, am_kI_i, am_nI_i, am_kV_i, am_nV_i, ↓reduceIte, eq_self, if_true, if_false, c_in, c_tn, pn_add, pn_mul, pn_subc, pn_addm, c_le_t, c_le_f, c_lt_t, c_lt_f, c_eq_f, c_eqm, bi_z, bi_1, bi_b, bi_T, bi_F, ite_not, up_eq, up_ne, or_self, or_true, true_or, or_false, false_or, and_true, true_and, and_self, not_true_eq_false, not_false_eq_true, Bool.false_eq_true]
  · refine ⟨h2, .int r, .int v, ?_, J, f3, f4, n⟩
    simp -implicitDefEqProofs (disch := (first | omega | assumption | exact am_isS_3 | exact am_isS_25 | exact am_isX_356 | exact am_isX_359)) only [ggW_law__184, ggW_law__185, ggW_law__186, ggW_law__187, ggW_law__188, ggW_law__189, ccW_law__184_3, ccW_law__184_2, ccW_law__184_1, s0, s1, f1, e1, e2, e3, hr, am_kI_x, am_kV_x, am_kI_i, am_nI_i, am_kV_i, am_nV_i, ↓reduceIte, eq_self, if_true, if_false, c_in, c_tn, pn_add, pn_mul, pn_subc, pn_addm, c_le_t, c_le_f, c_lt_t, c_lt_f, c_eq_f, c_eqm, bi_z, bi_1, bi_b, bi_T, bi_F, ite_not, up_eq, up_ne, or_self, or_true, true_or, or_false, false_or, and_true, true_and, and_self, not_true_eq_false, not_false_eq_true, Bool.false_eq_true]
theorem cs_190 {i L : Nat} {h : am_H} (hi : i + 6 ≤ L) (hL : L ≤ 3072) (el : h.2 392 0 = (Int32.ofNat L)) (K : J2 h h) (d : Nat) : LawStep d 190 i h := by
  intro x5 x6
  obtain ⟨r, v, h1, h2, e1, e2, e3, e4, J, f1, f2, f3, f4, n⟩ := twoS d (fun r => r) (T_rests (h.2 391 (i + 1))) (sdF0 [h.2 391 (i + 1)]) (sdR0 [h.2 391 (i + 1)]) (by decide +kernel) (wd_rests d (h.2 391 (i + 1))) K
  have s0 := sl_of el hL
  have s1 := sl_of ((congrFun f2 0).trans el) hL
  by_cases hr : r = (Int32.ofNat 0)
  · have hg := e4 hr
    subst hr
    have hg : h2.2 389 0 = v := hg
    refine ⟨h2, .int (Int32.ofNat 0), .int v, ?_, J, f3, f4, n⟩
    simp -implicitDefEqProofs (disch := (first | omega | assumption | exact am_isS_3 | exact am_isS_25 | exact am_isX_356 | exact am_isX_359)) only [ggW_law__190, ggW_law__191, ggW_law__192, ggW_law__193, ggW_law__194, ggW_law__195, ccW_law__190_3, ccW_law__190_2, ccW_law__190_1, s0, s1, f1, e1, e2, e3, hg, lg_rf, am_kI_x, am_kV_x, am_kI_i, am_nI_i, am_kV_i, am_nV_i, ↓reduceIte, eq_self, if_true, if_false, c_in, c_tn, pn_add, pn_mul, pn_subc, pn_addm, c_le_t, c_le_f, c_lt_t, c_lt_f, c_eq_f, c_eqm, bi_z, bi_1, bi_b, bi_T, bi_F, ite_not, up_eq, up_ne, or_self, or_true, true_or, or_false, false_or, and_true, true_and, and_self, not_true_eq_false, not_false_eq_true, Bool.false_eq_true]
  · refine ⟨h2, .int r, .int v, ?_, J, f3, f4, n⟩
    simp -implicitDefEqProofs (disch := (first | omega | assumption | exact am_isS_3 | exact am_isS_25 | exact am_isX_356 | exact am_isX_359)) only [ggW_law__190, ggW_law__191, ggW_law__192, ggW_law__193, ggW_law__194, ggW_law__195, ccW_law__190_3, ccW_law__190_2, ccW_law__190_1, s0, s1, f1, e1, e2, e3, hr, am_kI_x, am_kV_x, am_kI_i, am_nI_i, am_kV_i, am_nV_i, ↓reduceIte, eq_self, if_true, if_false, c_in, c_tn, pn_add, pn_mul, pn_subc, pn_addm, c_le_t, c_le_f, c_lt_t, c_lt_f, c_eq_f, c_eqm, bi_z, bi_1, bi_b, bi_T, bi_F, ite_not, up_eq, up_ne, or_self, or_true, true_or, or_false, false_or, and_true, true_and, and_self, not_true_eq_false, not_false_eq_true, Bool.false_eq_true]
theorem cs_196 {i L : Nat} {h : am_H} (hi : i + 6 ≤ L) (hL : L ≤ 3072) (el : h.2 392 0 = (Int32.ofNat L)) (K : J2 h h) (d : Nat) : LawStep d 196 i h := by
  intro x5 x6
  obtain ⟨r, v, h1, h2, e1, e2, e3, e4, J, f1, f2, f3, f4, n⟩ := twoS d (fun r => r) (T_nothing (h.2 391 (i + 1))) (sdF0 [h.2 391 (i + 1)]) (sdR0 [h.2 391 (i + 1)]) (by decide +kernel) (wd_nothing d (h.2 391 (i + 1))) K
  have s0 := sl_of el hL
  have s1 := sl_of ((congrFun f2 0).trans el) hL
  by_cases hr : r = (Int32.ofNat 0)
  · have hg := e4 hr
    subst hr
    have hg : h2.2 389 0 = v := hg
    refine ⟨h2, .int (Int32.ofNat 0), .int v, ?_, J, f3, f4, n⟩
    simp -implicitDefEqProofs (disch := (first | omega | assumption | exact am_isS_3 | exact am_isS_25 | exact am_isX_356 | exact am_isX_359)) only [ggW_law__196, ggW_law__197, ggW_law__198, ggW_law__199, ggW_law__200, ggW_law__201, ccW_law__196_3, ccW_law__196_2, ccW_law__196_1, s0, s1, f1, e1, e2, e3, hg, lg_rf, am_kI_x, am_kV_x, am_kI_i, am_nI_i, am_kV_i, am_nV_i, ↓reduceIte, eq_self, if_true, if_false, c_in, c_tn, pn_add, pn_mul, pn_subc, pn_addm, c_le_t, c_le_f, c_lt_t, c_lt_f, c_eq_f, c_eqm, bi_z, bi_1, bi_b, bi_T, bi_F, ite_not, up_eq, up_ne, or_self, or_true, true_or, or_false, false_or, and_true, true_and, and_self, not_true_eq_false, not_false_eq_true, Bool.false_eq_true]
  · refine ⟨h2, .int r, .int v, ?_, J, f3, f4, n⟩
    simp -implicitDefEqProofs (disch := (first | omega | assumption | exact am_isS_3 | exact am_isS_25 | exact am_isX_356 | exact am_isX_359)) only [ggW_law__196, ggW_law__197, ggW_law__198, ggW_law__199, ggW_law__200, ggW_law__201, ccW_law__196_3, ccW_law__196_2, ccW_law__196_1, s0, s1, f1, e1, e2, e3, hr, am_kI_x, am_kV_x, am_kI_i, am_nI_i, am_kV_i, am_nV_i, ↓reduceIte, eq_self, if_true, if_false, c_in, c_tn, pn_add, pn_mul, pn_subc, pn_addm, c_le_t, c_le_f, c_lt_t, c_lt_f, c_eq_f, c_eqm, bi_z, bi_1, bi_b, bi_T, bi_F, ite_not, up_eq, up_ne, or_self, or_true, true_or, or_false, false_or, and_true, true_and, and_self, not_true_eq_false, not_false_eq_true, Bool.false_eq_true]
theorem cs_216 {i L : Nat} {h : am_H} (hi : i + 6 ≤ L) (hL : L ≤ 3072) (el : h.2 392 0 = (Int32.ofNat L)) (K : J2 h h) (d : Nat) : LawStep d 216 i h := by
  intro x5 x6
  obtain ⟨r, v, h1, h2, e1, e2, e3, e4, J, f1, f2, f3, f4, n⟩ := twoS d (fun r => r) (T_ahead (h.2 391 (i + 1)) (h.2 391 (i + 2))) (sdF0 [h.2 391 (i + 1), h.2 391 (i + 2)]) (sdR0 [h.2 391 (i + 1), h.2 391 (i + 2)]) (by decide +kernel) (wd_ahead d (h.2 391 (i + 1)) (h.2 391 (i + 2))) K
  have s0 := sl_of el hL
  have s1 := sl_of ((congrFun f2 0).trans el) hL
  by_cases hr : r = (Int32.ofNat 0)
  · have hg := e4 hr
    subst hr
    have hg : h2.2 389 0 = v := hg
    refine ⟨h2, .int (Int32.ofNat 0), .int v, ?_, J, f3, f4, n⟩
    simp -implicitDefEqProofs (disch := (first | omega | assumption | exact am_isS_3 | exact am_isS_25 | exact am_isX_356 | exact am_isX_359)) only [ggW_law__216, ggW_law__217, ggW_law__218, ggW_law__219, ggW_law__220, ggW_law__221, ccW_law__216_3, ccW_law__216_2, ccW_law__216_1, s0, s1, f1, e1, e2, e3, hg, lg_rf, am_kI_x, am_kV_x, am_kI_i, am_nI_i, am_kV_i, am_nV_i, ↓reduceIte, eq_self, if_true, if_false, c_in, c_tn, pn_add, pn_mul, pn_subc, pn_addm, c_le_t, c_le_f, c_lt_t, c_lt_f, c_eq_f, c_eqm, bi_z, bi_1, bi_b, bi_T, bi_F, ite_not, up_eq, up_ne, or_self, or_true, true_or, or_false, false_or, and_true, true_and, and_self, not_true_eq_false, not_false_eq_true, Bool.false_eq_true]
  · refine ⟨h2, .int r, .int v, ?_, J, f3, f4, n⟩
    simp -implicitDefEqProofs (disch := (first | omega | assumption | exact am_isS_3 | exact am_isS_25 | exact am_isX_356 | exact am_isX_359)) only [ggW_law__216, ggW_law__217, ggW_law__218, ggW_law__219, ggW_law__220, ggW_law__221, ccW_law__216_3, ccW_law__216_2, ccW_law__216_1, s0, s1, f1, e1, e2, e3, hr, am_kI_x, am_kV_x, am_kI_i, am_nI_i, am_kV_i, am_nV_i, ↓reduceIte, eq_self, if_true, if_false, c_in, c_tn, pn_add, pn_mul, pn_subc, pn_addm, c_le_t, c_le_f, c_lt_t, c_lt_f, c_eq_f, c_eqm, bi_z, bi_1, bi_b, bi_T, bi_F, ite_not, up_eq, up_ne, or_self, or_true, true_or, or_false, false_or, and_true, true_and, and_self, not_true_eq_false, not_false_eq_true, Bool.false_eq_true]
theorem cs_258 {i L : Nat} {h : am_H} (hi : i + 6 ≤ L) (hL : L ≤ 3072) (el : h.2 392 0 = (Int32.ofNat L)) (K : J2 h h) (d : Nat) : LawStep d 258 i h := by
  intro x5 x6
  obtain ⟨r, v, h1, h2, e1, e2, e3, e4, J, f1, f2, f3, f4, n⟩ := twoS d (fun r => r) (T_log (h.2 391 (i + 1)) (h.2 391 (i + 2))) (sdF0 [h.2 391 (i + 1), h.2 391 (i + 2)]) (sdR0 [h.2 391 (i + 1), h.2 391 (i + 2)]) (by decide +kernel) (wd_log d (h.2 391 (i + 1)) (h.2 391 (i + 2))) K
  have s0 := sl_of el hL
  have s1 := sl_of ((congrFun f2 0).trans el) hL
  by_cases hr : r = (Int32.ofNat 0)
  · have hg := e4 hr
    subst hr
    have hg : h2.2 389 0 = v := hg
    refine ⟨h2, .int (Int32.ofNat 0), .int v, ?_, J, f3, f4, n⟩
    simp -implicitDefEqProofs (disch := (first | omega | assumption | exact am_isS_3 | exact am_isS_25 | exact am_isX_356 | exact am_isX_359)) only [ggW_law__258, ggW_law__259, ggW_law__260, ggW_law__261, ggW_law__262, ggW_law__263, ccW_law__258_3, ccW_law__258_2, ccW_law__258_1, s0, s1, f1, e1, e2, e3, hg, lg_rf, am_kI_x, am_kV_x, am_kI_i, am_nI_i, am_kV_i, am_nV_i, ↓reduceIte, eq_self, if_true, if_false, c_in, c_tn, pn_add, pn_mul, pn_subc, pn_addm, c_le_t, c_le_f, c_lt_t, c_lt_f, c_eq_f, c_eqm, bi_z, bi_1, bi_b, bi_T, bi_F, ite_not, up_eq, up_ne, or_self, or_true, true_or, or_false, false_or, and_true, true_and, and_self, not_true_eq_false, not_false_eq_true, Bool.false_eq_true]
  · refine ⟨h2, .int r, .int v, ?_, J, f3, f4, n⟩
    simp -implicitDefEqProofs (disch := (first | omega | assumption | exact am_isS_3 | exact am_isS_25 | exact am_isX_356 | exact am_isX_359)) only [ggW_law__258, ggW_law__259, ggW_law__260, ggW_law__261, ggW_law__262, ggW_law__263, ccW_law__258_3, ccW_law__258_2, ccW_law__258_1, s0, s1, f1, e1, e2, e3, hr, am_kI_x, am_kV_x, am_kI_i, am_nI_i, am_kV_i, am_nV_i, ↓reduceIte, eq_self, if_true, if_false, c_in, c_tn, pn_add, pn_mul, pn_subc, pn_addm, c_le_t, c_le_f, c_lt_t, c_lt_f, c_eq_f, c_eqm, bi_z, bi_1, bi_b, bi_T, bi_F, ite_not, up_eq, up_ne, or_self, or_true, true_or, or_false, false_or, and_true, true_and, and_self, not_true_eq_false, not_false_eq_true, Bool.false_eq_true]
theorem cs_172 {i L : Nat} {h : am_H} (hi : i + 6 ≤ L) (hL : L ≤ 3072) (el : h.2 392 0 = (Int32.ofNat L)) (K : J2 h h) (d : Nat) : LawStep d 172 i h := by
  intro x5 x6
  have s0 := sl_of el hL
  by_cases hv : h.2 391 (i + 1) = (Int32.ofNat 0)
  · obtain ⟨r, v, h1, h2, e1, e2, e3, e4, J, f1, f2, f3, f4, n⟩ := twoS d (fun r => r) (T_rules (Int32.ofNat 0) (Or.inl rfl)) (sdF0 [(Int32.ofNat 0)]) (sdR0 [(Int32.ofNat 0)]) (by decide +kernel) (wd_rules d (Int32.ofNat 0)) K
    have s1 := sl_of ((congrFun f2 0).trans el) hL
    by_cases hr : r = (Int32.ofNat 0)
    · have hg := e4 hr
      subst hr
      have hg : h2.2 389 0 = v := hg
      refine ⟨h2, .int (Int32.ofNat 0), .int v, ?_, J, f3, f4, n⟩
      simp -implicitDefEqProofs (disch := (first | omega | assumption | exact am_isS_3 | exact am_isS_25 | exact am_isX_356 | exact am_isX_359)) only [ggW_law__172, ggW_law__173, ggW_law__174, ggW_law__175, ggW_law__176, ggW_law__177, ggW_law__178, ggW_law__179, ggW_law__180, ggW_law__181, ggW_law__182, ggW_law__183, ccW_law__175_1, ccW_law__178_2, ccW_law__178_1, k_373, s0, s1, f1, hv, e1, e2, e3, hg, lg_rf, am_kI_x, am_kV_x, am_kI_i, am_nI_i, am_kV_i, am_nV_i, ↓reduceIte, eq_self, if_true, if_false, c_in, c_tn, pn_add, pn_mul, pn_subc, pn_addm, c_le_t, c_le_f, c_lt_t, c_lt_f, c_eq_f, c_eqm, bi_z, bi_1, bi_b, bi_T, bi_F, ite_not, up_eq, up_ne, or_self, or_true, true_or, or_false, false_or, and_true, true_and, and_self, not_true_eq_false, not_false_eq_true, Bool.false_eq_true]
    · refine ⟨h2, .int r, .int v, ?_, J, f3, f4, n⟩
      simp -implicitDefEqProofs (disch := (first | omega | assumption | exact am_isS_3 | exact am_isS_25 | exact am_isX_356 | exact am_isX_359)) only [ggW_law__172, ggW_law__173, ggW_law__174, ggW_law__175, ggW_law__176, ggW_law__177, ggW_law__178, ggW_law__179, ggW_law__180, ggW_law__181, ggW_law__182, ggW_law__183, ccW_law__175_1, ccW_law__178_2, ccW_law__178_1, k_373, s0, s1, f1, hv, e1, e2, e3, hr, am_kI_x, am_kV_x, am_kI_i, am_nI_i, am_kV_i, am_nV_i, ↓reduceIte, eq_self, if_true, if_false, c_in, c_tn, pn_add, pn_mul, pn_subc, pn_addm, c_le_t, c_le_f, c_lt_t, c_lt_f, c_eq_f, c_eqm, bi_z, bi_1, bi_b, bi_T, bi_F, ite_not, up_eq, up_ne, or_self, or_true, true_or, or_false, false_or, and_true, true_and, and_self, not_true_eq_false, not_false_eq_true, Bool.false_eq_true]
  · obtain ⟨r, v, h1, h2, e1, e2, e3, e4, J, f1, f2, f3, f4, n⟩ := twoS d (fun r => r) (T_rules (Int32.ofNat 1) (Or.inr rfl)) (sdF0 [(Int32.ofNat 1)]) (sdR0 [(Int32.ofNat 1)]) (by decide +kernel) (wd_rules d (Int32.ofNat 1)) K
    have s1 := sl_of ((congrFun f2 0).trans el) hL
    by_cases hr : r = (Int32.ofNat 0)
    · have hg := e4 hr
      subst hr
      have hg : h2.2 389 0 = v := hg
      refine ⟨h2, .int (Int32.ofNat 0), .int v, ?_, J, f3, f4, n⟩
      simp -implicitDefEqProofs (disch := (first | omega | assumption | exact am_isS_3 | exact am_isS_25 | exact am_isX_356 | exact am_isX_359)) only [ggW_law__172, ggW_law__173, ggW_law__174, ggW_law__175, ggW_law__176, ggW_law__177, ggW_law__178, ggW_law__179, ggW_law__180, ggW_law__181, ggW_law__182, ggW_law__183, ccW_law__175_1, ccW_law__178_2, ccW_law__178_1, k_373, s0, s1, f1, hv, e1, e2, e3, hg, lg_rf, am_kI_x, am_kV_x, am_kI_i, am_nI_i, am_kV_i, am_nV_i, ↓reduceIte, eq_self, if_true, if_false, c_in, c_tn, pn_add, pn_mul, pn_subc, pn_addm, c_le_t, c_le_f, c_lt_t, c_lt_f, c_eq_f, c_eqm, bi_z, bi_1, bi_b, bi_T, bi_F, ite_not, up_eq, up_ne, or_self, or_true, true_or, or_false, false_or, and_true, true_and, and_self, not_true_eq_false, not_false_eq_true, Bool.false_eq_true]
    · refine ⟨h2, .int r, .int v, ?_, J, f3, f4, n⟩
      simp -implicitDefEqProofs (disch := (first | omega | assumption | exact am_isS_3 | exact am_isS_25 | exact am_isX_356 | exact am_isX_359)) only [ggW_law__172, ggW_law__173, ggW_law__174, ggW_law__175, ggW_law__176, ggW_law__177, ggW_law__178, ggW_law__179, ggW_law__180, ggW_law__181, ggW_law__182, ggW_law__183, ccW_law__175_1, ccW_law__178_2, ccW_law__178_1, k_373, s0, s1, f1, hv, e1, e2, e3, hr, am_kI_x, am_kV_x, am_kI_i, am_nI_i, am_kV_i, am_nV_i, ↓reduceIte, eq_self, if_true, if_false, c_in, c_tn, pn_add, pn_mul, pn_subc, pn_addm, c_le_t, c_le_f, c_lt_t, c_lt_f, c_eq_f, c_eqm, bi_z, bi_1, bi_b, bi_T, bi_F, ite_not, up_eq, up_ne, or_self, or_true, true_or, or_false, false_or, and_true, true_and, and_self, not_true_eq_false, not_false_eq_true, Bool.false_eq_true]
theorem cs_222 {i L : Nat} {h : am_H} (hi : i + 6 ≤ L) (hL : L ≤ 3072) (el : h.2 392 0 = (Int32.ofNat L)) (K : J2 h h) (d : Nat) : LawStep d 222 i h := by
  intro x5 x6
  have s0 := sl_of el hL
  by_cases hv : h.2 391 (i + 2) = (Int32.ofNat 0)
  · obtain ⟨r, v, h1, h2, e1, e2, e3, e4, J, f1, f2, f3, f4, n⟩ := twoS d (fun r => r) (T_trial (h.2 391 (i + 1)) (Int32.ofNat 0)) (sdF0 [h.2 391 (i + 1), (Int32.ofNat 0)]) (sdR0 [h.2 391 (i + 1), (Int32.ofNat 0)]) (by decide +kernel) (wd_trial d (h.2 391 (i + 1)) (Int32.ofNat 0)) K
    have s1 := sl_of ((congrFun f2 0).trans el) hL
    by_cases hr : r = (Int32.ofNat 0)
    · have hg := e4 hr
      subst hr
      have hg : h2.2 389 0 = v := hg
      refine ⟨h2, .int (Int32.ofNat 0), .int v, ?_, J, f3, f4, n⟩
      simp -implicitDefEqProofs (disch := (first | omega | assumption | exact am_isS_3 | exact am_isS_25 | exact am_isX_356 | exact am_isX_359)) only [ggW_law__222, ggW_law__223, ggW_law__224, ggW_law__225, ggW_law__226, ggW_law__227, ggW_law__228, ggW_law__229, ggW_law__230, ggW_law__231, ggW_law__232, ggW_law__233, ccW_law__225_1, ccW_law__228_2, ccW_law__228_1, k_373, s0, s1, f1, hv, e1, e2, e3, hg, lg_rf, am_kI_x, am_kV_x, am_kI_i, am_nI_i, am_kV_i, am_nV_i, ↓reduceIte, eq_self, if_true, if_false, c_in, c_tn, pn_add, pn_mul, pn_subc, pn_addm, c_le_t, c_le_f, c_lt_t, c_lt_f, c_eq_f, c_eqm, bi_z, bi_1, bi_b, bi_T, bi_F, ite_not, up_eq, up_ne, or_self, or_true, true_or, or_false, false_or, and_true, true_and, and_self, not_true_eq_false, not_false_eq_true, Bool.false_eq_true]
    · refine ⟨h2, .int r, .int v, ?_, J, f3, f4, n⟩
      simp -implicitDefEqProofs (disch := (first | omega | assumption | exact am_isS_3 | exact am_isS_25 | exact am_isX_356 | exact am_isX_359)) only [ggW_law__222, ggW_law__223, ggW_law__224, ggW_law__225, ggW_law__226, ggW_law__227, ggW_law__228, ggW_law__229, ggW_law__230, ggW_law__231, ggW_law__232, ggW_law__233, ccW_law__225_1, ccW_law__228_2, ccW_law__228_1, k_373, s0, s1, f1, hv, e1, e2, e3, hr, am_kI_x, am_kV_x, am_kI_i, am_nI_i, am_kV_i, am_nV_i, ↓reduceIte, eq_self, if_true, if_false, c_in, c_tn, pn_add, pn_mul, pn_subc, pn_addm, c_le_t, c_le_f, c_lt_t, c_lt_f, c_eq_f, c_eqm, bi_z, bi_1, bi_b, bi_T, bi_F, ite_not, up_eq, up_ne, or_self, or_true, true_or, or_false, false_or, and_true, true_and, and_self, not_true_eq_false, not_false_eq_true, Bool.false_eq_true]
  · obtain ⟨r, v, h1, h2, e1, e2, e3, e4, J, f1, f2, f3, f4, n⟩ := twoS d (fun r => r) (T_trial (h.2 391 (i + 1)) (Int32.ofNat 1)) (sdF0 [h.2 391 (i + 1), (Int32.ofNat 1)]) (sdR0 [h.2 391 (i + 1), (Int32.ofNat 1)]) (by decide +kernel) (wd_trial d (h.2 391 (i + 1)) (Int32.ofNat 1)) K
    have s1 := sl_of ((congrFun f2 0).trans el) hL
    by_cases hr : r = (Int32.ofNat 0)
    · have hg := e4 hr
      subst hr
      have hg : h2.2 389 0 = v := hg
      refine ⟨h2, .int (Int32.ofNat 0), .int v, ?_, J, f3, f4, n⟩
      simp -implicitDefEqProofs (disch := (first | omega | assumption | exact am_isS_3 | exact am_isS_25 | exact am_isX_356 | exact am_isX_359)) only [ggW_law__222, ggW_law__223, ggW_law__224, ggW_law__225, ggW_law__226, ggW_law__227, ggW_law__228, ggW_law__229, ggW_law__230, ggW_law__231, ggW_law__232, ggW_law__233, ccW_law__225_1, ccW_law__228_2, ccW_law__228_1, k_373, s0, s1, f1, hv, e1, e2, e3, hg, lg_rf, am_kI_x, am_kV_x, am_kI_i, am_nI_i, am_kV_i, am_nV_i, ↓reduceIte, eq_self, if_true, if_false, c_in, c_tn, pn_add, pn_mul, pn_subc, pn_addm, c_le_t, c_le_f, c_lt_t, c_lt_f, c_eq_f, c_eqm, bi_z, bi_1, bi_b, bi_T, bi_F, ite_not, up_eq, up_ne, or_self, or_true, true_or, or_false, false_or, and_true, true_and, and_self, not_true_eq_false, not_false_eq_true, Bool.false_eq_true]
    · refine ⟨h2, .int r, .int v, ?_, J, f3, f4, n⟩
      simp -implicitDefEqProofs (disch := (first | omega | assumption | exact am_isS_3 | exact am_isS_25 | exact am_isX_356 | exact am_isX_359)) only [ggW_law__222, ggW_law__223, ggW_law__224, ggW_law__225, ggW_law__226, ggW_law__227, ggW_law__228, ggW_law__229, ggW_law__230, ggW_law__231, ggW_law__232, ggW_law__233, ccW_law__225_1, ccW_law__228_2, ccW_law__228_1, k_373, s0, s1, f1, hv, e1, e2, e3, hr, am_kI_x, am_kV_x, am_kI_i, am_nI_i, am_kV_i, am_nV_i, ↓reduceIte, eq_self, if_true, if_false, c_in, c_tn, pn_add, pn_mul, pn_subc, pn_addm, c_le_t, c_le_f, c_lt_t, c_lt_f, c_eq_f, c_eqm, bi_z, bi_1, bi_b, bi_T, bi_F, ite_not, up_eq, up_ne, or_self, or_true, true_or, or_false, false_or, and_true, true_and, and_self, not_true_eq_false, not_false_eq_true, Bool.false_eq_true]
theorem cs_234 {i L : Nat} {h : am_H} (hi : i + 6 ≤ L) (hL : L ≤ 3072) (el : h.2 392 0 = (Int32.ofNat L)) (K : J2 h h) (d : Nat) : LawStep d 234 i h := by
  intro x5 x6
  have s0 := sl_of el hL
  by_cases hv : h.2 391 (i + 2) = (Int32.ofNat 0)
  · obtain ⟨r, v, h1, h2, e1, e2, e3, e4, J, f1, f2, f3, f4, n⟩ := twoS d (fun r => r) (T_span (h.2 391 (i + 1)) (Int32.ofNat 0)) (sdF0 [h.2 391 (i + 1), (Int32.ofNat 0)]) (sdR0 [h.2 391 (i + 1), (Int32.ofNat 0)]) (by decide +kernel) (wd_span d (h.2 391 (i + 1)) (Int32.ofNat 0)) K
    have s1 := sl_of ((congrFun f2 0).trans el) hL
    by_cases hr : r = (Int32.ofNat 0)
    · have hg := e4 hr
      subst hr
      have hg : h2.2 389 0 = v := hg
      refine ⟨h2, .int (Int32.ofNat 0), .int v, ?_, J, f3, f4, n⟩
      simp -implicitDefEqProofs (disch := (first | omega | assumption | exact am_isS_3 | exact am_isS_25 | exact am_isX_356 | exact am_isX_359)) only [ggW_law__234, ggW_law__235, ggW_law__236, ggW_law__237, ggW_law__238, ggW_law__239, ggW_law__240, ggW_law__241, ggW_law__242, ggW_law__243, ggW_law__244, ggW_law__245, ccW_law__237_1, ccW_law__240_2, ccW_law__240_1, k_373, s0, s1, f1, hv, e1, e2, e3, hg, lg_rf, am_kI_x, am_kV_x, am_kI_i, am_nI_i, am_kV_i, am_nV_i, ↓reduceIte, eq_self, if_true, if_false, c_in, c_tn, pn_add, pn_mul, pn_subc, pn_addm, c_le_t, c_le_f, c_lt_t, c_lt_f, c_eq_f, c_eqm, bi_z, bi_1, bi_b, bi_T, bi_F, ite_not, up_eq, up_ne, or_self, or_true, true_or, or_false, false_or, and_true, true_and, and_self, not_true_eq_false, not_false_eq_true, Bool.false_eq_true]
    · refine ⟨h2, .int r, .int v, ?_, J, f3, f4, n⟩
      simp -implicitDefEqProofs (disch := (first | omega | assumption | exact am_isS_3 | exact am_isS_25 | exact am_isX_356 | exact am_isX_359)) only [ggW_law__234, ggW_law__235, ggW_law__236, ggW_law__237, ggW_law__238, ggW_law__239, ggW_law__240, ggW_law__241, ggW_law__242, ggW_law__243, ggW_law__244, ggW_law__245, ccW_law__237_1, ccW_law__240_2, ccW_law__240_1, k_373, s0, s1, f1, hv, e1, e2, e3, hr, am_kI_x, am_kV_x, am_kI_i, am_nI_i, am_kV_i, am_nV_i, ↓reduceIte, eq_self, if_true, if_false, c_in, c_tn, pn_add, pn_mul, pn_subc, pn_addm, c_le_t, c_le_f, c_lt_t, c_lt_f, c_eq_f, c_eqm, bi_z, bi_1, bi_b, bi_T, bi_F, ite_not, up_eq, up_ne, or_self, or_true, true_or, or_false, false_or, and_true, true_and, and_self, not_true_eq_false, not_false_eq_true, Bool.false_eq_true]
  · obtain ⟨r, v, h1, h2, e1, e2, e3, e4, J, f1, f2, f3, f4, n⟩ := twoS d (fun r => r) (T_span (h.2 391 (i + 1)) (Int32.ofNat 1)) (sdF0 [h.2 391 (i + 1), (Int32.ofNat 1)]) (sdR0 [h.2 391 (i + 1), (Int32.ofNat 1)]) (by decide +kernel) (wd_span d (h.2 391 (i + 1)) (Int32.ofNat 1)) K
    have s1 := sl_of ((congrFun f2 0).trans el) hL
    by_cases hr : r = (Int32.ofNat 0)
    · have hg := e4 hr
      subst hr
      have hg : h2.2 389 0 = v := hg
      refine ⟨h2, .int (Int32.ofNat 0), .int v, ?_, J, f3, f4, n⟩
      simp -implicitDefEqProofs (disch := (first | omega | assumption | exact am_isS_3 | exact am_isS_25 | exact am_isX_356 | exact am_isX_359)) only [ggW_law__234, ggW_law__235, ggW_law__236, ggW_law__237, ggW_law__238, ggW_law__239, ggW_law__240, ggW_law__241, ggW_law__242, ggW_law__243, ggW_law__244, ggW_law__245, ccW_law__237_1, ccW_law__240_2, ccW_law__240_1, k_373, s0, s1, f1, hv, e1, e2, e3, hg, lg_rf, am_kI_x, am_kV_x, am_kI_i, am_nI_i, am_kV_i, am_nV_i, ↓reduceIte, eq_self, if_true, if_false, c_in, c_tn, pn_add, pn_mul, pn_subc, pn_addm, c_le_t, c_le_f, c_lt_t, c_lt_f, c_eq_f, c_eqm, bi_z, bi_1, bi_b, bi_T, bi_F, ite_not, up_eq, up_ne, or_self, or_true, true_or, or_false, false_or, and_true, true_and, and_self, not_true_eq_false, not_false_eq_true, Bool.false_eq_true]
    · refine ⟨h2, .int r, .int v, ?_, J, f3, f4, n⟩
      simp -implicitDefEqProofs (disch := (first | omega | assumption | exact am_isS_3 | exact am_isS_25 | exact am_isX_356 | exact am_isX_359)) only [ggW_law__234, ggW_law__235, ggW_law__236, ggW_law__237, ggW_law__238, ggW_law__239, ggW_law__240, ggW_law__241, ggW_law__242, ggW_law__243, ggW_law__244, ggW_law__245, ccW_law__237_1, ccW_law__240_2, ccW_law__240_1, k_373, s0, s1, f1, hv, e1, e2, e3, hr, am_kI_x, am_kV_x, am_kI_i, am_nI_i, am_kV_i, am_nV_i, ↓reduceIte, eq_self, if_true, if_false, c_in, c_tn, pn_add, pn_mul, pn_subc, pn_addm, c_le_t, c_le_f, c_lt_t, c_lt_f, c_eq_f, c_eqm, bi_z, bi_1, bi_b, bi_T, bi_F, ite_not, up_eq, up_ne, or_self, or_true, true_or, or_false, false_or, and_true, true_and, and_self, not_true_eq_false, not_false_eq_true, Bool.false_eq_true]
theorem cs_246 {i L : Nat} {h : am_H} (hi : i + 6 ≤ L) (hL : L ≤ 3072) (el : h.2 392 0 = (Int32.ofNat L)) (K : J2 h h) (d : Nat) : LawStep d 246 i h := by
  intro x5 x6
  have s0 := sl_of el hL
  by_cases hv : h.2 391 (i + 2) = (Int32.ofNat 0)
  · obtain ⟨r, v, h1, h2, e1, e2, e3, e4, J, f1, f2, f3, f4, n⟩ := twoS d (fun r => r) (T_led (h.2 391 (i + 1)) (Int32.ofNat 0)) (sdF0 [h.2 391 (i + 1), (Int32.ofNat 0)]) (sdR0 [h.2 391 (i + 1), (Int32.ofNat 0)]) (by decide +kernel) (wd_led d (h.2 391 (i + 1)) (Int32.ofNat 0)) K
    have s1 := sl_of ((congrFun f2 0).trans el) hL
    by_cases hr : r = (Int32.ofNat 0)
    · have hg := e4 hr
      subst hr
      have hg : h2.2 389 0 = v := hg
      refine ⟨h2, .int (Int32.ofNat 0), .int v, ?_, J, f3, f4, n⟩
      simp -implicitDefEqProofs (disch := (first | omega | assumption | exact am_isS_3 | exact am_isS_25 | exact am_isX_356 | exact am_isX_359)) only [ggW_law__246, ggW_law__247, ggW_law__248, ggW_law__249, ggW_law__250, ggW_law__251, ggW_law__252, ggW_law__253, ggW_law__254, ggW_law__255, ggW_law__256, ggW_law__257, ccW_law__249_1, ccW_law__252_2, ccW_law__252_1, k_373, s0, s1, f1, hv, e1, e2, e3, hg, lg_rf, am_kI_x, am_kV_x, am_kI_i, am_nI_i, am_kV_i, am_nV_i, ↓reduceIte, eq_self, if_true, if_false, c_in, c_tn, pn_add, pn_mul, pn_subc, pn_addm, c_le_t, c_le_f, c_lt_t, c_lt_f, c_eq_f, c_eqm, bi_z, bi_1, bi_b, bi_T, bi_F, ite_not, up_eq, up_ne, or_self, or_true, true_or, or_false, false_or, and_true, true_and, and_self, not_true_eq_false, not_false_eq_true, Bool.false_eq_true]
    · refine ⟨h2, .int r, .int v, ?_, J, f3, f4, n⟩
      simp -implicitDefEqProofs (disch := (first | omega | assumption | exact am_isS_3 | exact am_isS_25 | exact am_isX_356 | exact am_isX_359)) only [ggW_law__246, ggW_law__247, ggW_law__248, ggW_law__249, ggW_law__250, ggW_law__251, ggW_law__252, ggW_law__253, ggW_law__254, ggW_law__255, ggW_law__256, ggW_law__257, ccW_law__249_1, ccW_law__252_2, ccW_law__252_1, k_373, s0, s1, f1, hv, e1, e2, e3, hr, am_kI_x, am_kV_x, am_kI_i, am_nI_i, am_kV_i, am_nV_i, ↓reduceIte, eq_self, if_true, if_false, c_in, c_tn, pn_add, pn_mul, pn_subc, pn_addm, c_le_t, c_le_f, c_lt_t, c_lt_f, c_eq_f, c_eqm, bi_z, bi_1, bi_b, bi_T, bi_F, ite_not, up_eq, up_ne, or_self, or_true, true_or, or_false, false_or, and_true, true_and, and_self, not_true_eq_false, not_false_eq_true, Bool.false_eq_true]
  · obtain ⟨r, v, h1, h2, e1, e2, e3, e4, J, f1, f2, f3, f4, n⟩ := twoS d (fun r => r) (T_led (h.2 391 (i + 1)) (Int32.ofNat 1)) (sdF0 [h.2 391 (i + 1), (Int32.ofNat 1)]) (sdR0 [h.2 391 (i + 1), (Int32.ofNat 1)]) (by decide +kernel) (wd_led d (h.2 391 (i + 1)) (Int32.ofNat 1)) K
    have s1 := sl_of ((congrFun f2 0).trans el) hL
    by_cases hr : r = (Int32.ofNat 0)
    · have hg := e4 hr
      subst hr
      have hg : h2.2 389 0 = v := hg
      refine ⟨h2, .int (Int32.ofNat 0), .int v, ?_, J, f3, f4, n⟩
      simp -implicitDefEqProofs (disch := (first | omega | assumption | exact am_isS_3 | exact am_isS_25 | exact am_isX_356 | exact am_isX_359)) only [ggW_law__246, ggW_law__247, ggW_law__248, ggW_law__249, ggW_law__250, ggW_law__251, ggW_law__252, ggW_law__253, ggW_law__254, ggW_law__255, ggW_law__256, ggW_law__257, ccW_law__249_1, ccW_law__252_2, ccW_law__252_1, k_373, s0, s1, f1, hv, e1, e2, e3, hg, lg_rf, am_kI_x, am_kV_x, am_kI_i, am_nI_i, am_kV_i, am_nV_i, ↓reduceIte, eq_self, if_true, if_false, c_in, c_tn, pn_add, pn_mul, pn_subc, pn_addm, c_le_t, c_le_f, c_lt_t, c_lt_f, c_eq_f, c_eqm, bi_z, bi_1, bi_b, bi_T, bi_F, ite_not, up_eq, up_ne, or_self, or_true, true_or, or_false, false_or, and_true, true_and, and_self, not_true_eq_false, not_false_eq_true, Bool.false_eq_true]
    · refine ⟨h2, .int r, .int v, ?_, J, f3, f4, n⟩
      simp -implicitDefEqProofs (disch := (first | omega | assumption | exact am_isS_3 | exact am_isS_25 | exact am_isX_356 | exact am_isX_359)) only [ggW_law__246, ggW_law__247, ggW_law__248, ggW_law__249, ggW_law__250, ggW_law__251, ggW_law__252, ggW_law__253, ggW_law__254, ggW_law__255, ggW_law__256, ggW_law__257, ccW_law__249_1, ccW_law__252_2, ccW_law__252_1, k_373, s0, s1, f1, hv, e1, e2, e3, hr, am_kI_x, am_kV_x, am_kI_i, am_nI_i, am_kV_i, am_nV_i, ↓reduceIte, eq_self, if_true, if_false, c_in, c_tn, pn_add, pn_mul, pn_subc, pn_addm, c_le_t, c_le_f, c_lt_t, c_lt_f, c_eq_f, c_eqm, bi_z, bi_1, bi_b, bi_T, bi_F, ite_not, up_eq, up_ne, or_self, or_true, true_or, or_false, false_or, and_true, true_and, and_self, not_true_eq_false, not_false_eq_true, Bool.false_eq_true]
theorem cs_3 {i L : Nat} {h : am_H} (hi : i + 6 ≤ L) (hL : L ≤ 3072) (el : h.2 392 0 = (Int32.ofNat L)) (K : J2 h h) (d : Nat) : LawStep d 3 i h := by
  intro x5 x6
  obtain ⟨v, h1, h2, e1, e2, J, f1, f2, f3, f4, n⟩ := ansS d (T_feed (h.2 391 (i + 1)) (h.2 391 (i + 2)) (h.2 391 (i + 3)) (h.2 391 (i + 4)) (h.2 391 (i + 5))) (sdF0 [h.2 391 (i + 1), h.2 391 (i + 2), h.2 391 (i + 3), h.2 391 (i + 4), h.2 391 (i + 5)]) (sdR0 [h.2 391 (i + 1), h.2 391 (i + 2), h.2 391 (i + 3), h.2 391 (i + 4), h.2 391 (i + 5)]) K
  have s0 := sl_of el hL
  have s1 := sl_of ((congrFun f2 0).trans el) hL
  refine ⟨h2, x5, x6, ?_, J, f3, f4, n⟩
  simp -implicitDefEqProofs (disch := (first | omega | assumption | exact am_isS_3 | exact am_isS_25 | exact am_isX_356 | exact am_isX_359)) only [ggW_law__3, ggW_law__4, ccW_law__3_2, ccW_law__3_1, s0, s1, f1, e1, e2, am_kI_x, am_kV_x, am_kI_i, am_nI_i, am_kV_i, am_nV_i, ↓reduceIte, eq_self, if_true, if_false, c_in, c_tn, pn_add, pn_mul, pn_subc, pn_addm, c_le_t, c_le_f, c_lt_t, c_lt_f, c_eq_f, c_eqm, bi_z, bi_1, bi_b, bi_T, bi_F, ite_not, up_eq, up_ne, or_self, or_true, true_or, or_false, false_or, and_true, true_and, and_self, not_true_eq_false, not_false_eq_true, Bool.false_eq_true]
theorem cs_5 {i L : Nat} {h : am_H} (hi : i + 6 ≤ L) (hL : L ≤ 3072) (el : h.2 392 0 = (Int32.ofNat L)) (K : J2 h h) (d : Nat) : LawStep d 5 i h := by
  intro x5 x6
  obtain ⟨v, h1, h2, e1, e2, J, f1, f2, f3, f4, n⟩ := ansS d (T_end (h.2 391 (i + 1))) (sdF0 [h.2 391 (i + 1)]) (sdR0 [h.2 391 (i + 1)]) K
  have s0 := sl_of el hL
  have s1 := sl_of ((congrFun f2 0).trans el) hL
  refine ⟨h2, x5, x6, ?_, J, f3, f4, n⟩
  simp -implicitDefEqProofs (disch := (first | omega | assumption | exact am_isS_3 | exact am_isS_25 | exact am_isX_356 | exact am_isX_359)) only [ggW_law__5, ggW_law__6, ccW_law__5_2, ccW_law__5_1, s0, s1, f1, e1, e2, am_kI_x, am_kV_x, am_kI_i, am_nI_i, am_kV_i, am_nV_i, ↓reduceIte, eq_self, if_true, if_false, c_in, c_tn, pn_add, pn_mul, pn_subc, pn_addm, c_le_t, c_le_f, c_lt_t, c_lt_f, c_eq_f, c_eqm, bi_z, bi_1, bi_b, bi_T, bi_F, ite_not, up_eq, up_ne, or_self, or_true, true_or, or_false, false_or, and_true, true_and, and_self, not_true_eq_false, not_false_eq_true, Bool.false_eq_true]
theorem cs_19 {i L : Nat} {h : am_H} (hi : i + 6 ≤ L) (hL : L ≤ 3072) (el : h.2 392 0 = (Int32.ofNat L)) (K : J2 h h) (d : Nat) : LawStep d 19 i h := by
  intro x5 x6
  obtain ⟨v, h1, h2, e1, e2, J, f1, f2, f3, f4, n⟩ := ansS d (T_fault) (sdF0 []) (sdR0 []) K
  have s0 := sl_of el hL
  have s1 := sl_of ((congrFun f2 0).trans el) hL
  refine ⟨h2, x5, x6, ?_, J, f3, f4, n⟩
  simp -implicitDefEqProofs (disch := (first | omega | assumption | exact am_isS_3 | exact am_isS_25 | exact am_isX_356 | exact am_isX_359)) only [ggW_law__19, ggW_law__20, ccW_law__19_2, ccW_law__19_1, s0, s1, f1, e1, e2, am_kI_x, am_kV_x, am_kI_i, am_nI_i, am_kV_i, am_nV_i, ↓reduceIte, eq_self, if_true, if_false, c_in, c_tn, pn_add, pn_mul, pn_subc, pn_addm, c_le_t, c_le_f, c_lt_t, c_lt_f, c_eq_f, c_eqm, bi_z, bi_1, bi_b, bi_T, bi_F, ite_not, up_eq, up_ne, or_self, or_true, true_or, or_false, false_or, and_true, true_and, and_self, not_true_eq_false, not_false_eq_true, Bool.false_eq_true]
theorem cs_123 {i L : Nat} {h : am_H} (hi : i + 6 ≤ L) (hL : L ≤ 3072) (el : h.2 392 0 = (Int32.ofNat L)) (K : J2 h h) (d : Nat) : LawStep d 123 i h := by
  intro x5 x6
  obtain ⟨v, h1, h2, e1, e2, J, f1, f2, f3, f4, n⟩ := ansS d (T_next) (sdF0 []) (sdR0 []) K
  have s0 := sl_of el hL
  have s1 := sl_of ((congrFun f2 0).trans el) hL
  refine ⟨h2, x5, x6, ?_, J, f3, f4, n⟩
  simp -implicitDefEqProofs (disch := (first | omega | assumption | exact am_isS_3 | exact am_isS_25 | exact am_isX_356 | exact am_isX_359)) only [ggW_law__123, ggW_law__124, ccW_law__123_2, ccW_law__123_1, s0, s1, f1, e1, e2, am_kI_x, am_kV_x, am_kI_i, am_nI_i, am_kV_i, am_nV_i, ↓reduceIte, eq_self, if_true, if_false, c_in, c_tn, pn_add, pn_mul, pn_subc, pn_addm, c_le_t, c_le_f, c_lt_t, c_lt_f, c_eq_f, c_eqm, bi_z, bi_1, bi_b, bi_T, bi_F, ite_not, up_eq, up_ne, or_self, or_true, true_or, or_false, false_or, and_true, true_and, and_self, not_true_eq_false, not_false_eq_true, Bool.false_eq_true]
theorem cs_137 {i L : Nat} {h : am_H} (hi : i + 6 ≤ L) (hL : L ≤ 3072) (el : h.2 392 0 = (Int32.ofNat L)) (K : J2 h h) (d : Nat) : LawStep d 137 i h := by
  intro x5 x6
  obtain ⟨v, h1, h2, e1, e2, J, f1, f2, f3, f4, n⟩ := ansS d (T_last) (sdF0 []) (sdR0 []) K
  have s0 := sl_of el hL
  have s1 := sl_of ((congrFun f2 0).trans el) hL
  refine ⟨h2, x5, x6, ?_, J, f3, f4, n⟩
  simp -implicitDefEqProofs (disch := (first | omega | assumption | exact am_isS_3 | exact am_isS_25 | exact am_isX_356 | exact am_isX_359)) only [ggW_law__137, ggW_law__138, ccW_law__137_2, ccW_law__137_1, s0, s1, f1, e1, e2, am_kI_x, am_kV_x, am_kI_i, am_nI_i, am_kV_i, am_nV_i, ↓reduceIte, eq_self, if_true, if_false, c_in, c_tn, pn_add, pn_mul, pn_subc, pn_addm, c_le_t, c_le_f, c_lt_t, c_lt_f, c_eq_f, c_eqm, bi_z, bi_1, bi_b, bi_T, bi_F, ite_not, up_eq, up_ne, or_self, or_true, true_or, or_false, false_or, and_true, true_and, and_self, not_true_eq_false, not_false_eq_true, Bool.false_eq_true]
theorem cs_166 {i L : Nat} {h : am_H} (hi : i + 6 ≤ L) (hL : L ≤ 3072) (el : h.2 392 0 = (Int32.ofNat L)) (K : J2 h h) (d : Nat) : LawStep d 166 i h := by
  intro x5 x6
  obtain ⟨v, h1, h2, e1, e2, J, f1, f2, f3, f4, n⟩ := ansS d (T_all) (sdF0 []) (sdR0 []) K
  have s0 := sl_of el hL
  have s1 := sl_of ((congrFun f2 0).trans el) hL
  refine ⟨h2, x5, x6, ?_, J, f3, f4, n⟩
  simp -implicitDefEqProofs (disch := (first | omega | assumption | exact am_isS_3 | exact am_isS_25 | exact am_isX_356 | exact am_isX_359)) only [ggW_law__166, ggW_law__167, ccW_law__166_2, ccW_law__166_1, s0, s1, f1, e1, e2, am_kI_x, am_kV_x, am_kI_i, am_nI_i, am_kV_i, am_nV_i, ↓reduceIte, eq_self, if_true, if_false, c_in, c_tn, pn_add, pn_mul, pn_subc, pn_addm, c_le_t, c_le_f, c_lt_t, c_lt_f, c_eq_f, c_eqm, bi_z, bi_1, bi_b, bi_T, bi_F, ite_not, up_eq, up_ne, or_self, or_true, true_or, or_false, false_or, and_true, true_and, and_self, not_true_eq_false, not_false_eq_true, Bool.false_eq_true]
theorem cs_168 {i L : Nat} {h : am_H} (hi : i + 6 ≤ L) (hL : L ≤ 3072) (el : h.2 392 0 = (Int32.ofNat L)) (K : J2 h h) (d : Nat) : LawStep d 168 i h := by
  intro x5 x6
  obtain ⟨v, h1, h2, e1, e2, J, f1, f2, f3, f4, n⟩ := ansS d (T_missing) (sdF0 []) (sdR0 []) K
  have s0 := sl_of el hL
  have s1 := sl_of ((congrFun f2 0).trans el) hL
  refine ⟨h2, x5, x6, ?_, J, f3, f4, n⟩
  simp -implicitDefEqProofs (disch := (first | omega | assumption | exact am_isS_3 | exact am_isS_25 | exact am_isX_356 | exact am_isX_359)) only [ggW_law__168, ggW_law__169, ccW_law__168_2, ccW_law__168_1, s0, s1, f1, e1, e2, am_kI_x, am_kV_x, am_kI_i, am_nI_i, am_kV_i, am_nV_i, ↓reduceIte, eq_self, if_true, if_false, c_in, c_tn, pn_add, pn_mul, pn_subc, pn_addm, c_le_t, c_le_f, c_lt_t, c_lt_f, c_eq_f, c_eqm, bi_z, bi_1, bi_b, bi_T, bi_F, ite_not, up_eq, up_ne, or_self, or_true, true_or, or_false, false_or, and_true, true_and, and_self, not_true_eq_false, not_false_eq_true, Bool.false_eq_true]
theorem cs_170 {i L : Nat} {h : am_H} (hi : i + 6 ≤ L) (hL : L ≤ 3072) (el : h.2 392 0 = (Int32.ofNat L)) (K : J2 h h) (d : Nat) : LawStep d 170 i h := by
  intro x5 x6
  obtain ⟨v, h1, h2, e1, e2, J, f1, f2, f3, f4, n⟩ := ansS d (T_nobody) (sdF0 []) (sdR0 []) K
  have s0 := sl_of el hL
  have s1 := sl_of ((congrFun f2 0).trans el) hL
  refine ⟨h2, x5, x6, ?_, J, f3, f4, n⟩
  simp -implicitDefEqProofs (disch := (first | omega | assumption | exact am_isS_3 | exact am_isS_25 | exact am_isX_356 | exact am_isX_359)) only [ggW_law__170, ggW_law__171, ccW_law__170_2, ccW_law__170_1, s0, s1, f1, e1, e2, am_kI_x, am_kV_x, am_kI_i, am_nI_i, am_kV_i, am_nV_i, ↓reduceIte, eq_self, if_true, if_false, c_in, c_tn, pn_add, pn_mul, pn_subc, pn_addm, c_le_t, c_le_f, c_lt_t, c_lt_f, c_eq_f, c_eqm, bi_z, bi_1, bi_b, bi_T, bi_F, ite_not, up_eq, up_ne, or_self, or_true, true_or, or_false, false_or, and_true, true_and, and_self, not_true_eq_false, not_false_eq_true, Bool.false_eq_true]
theorem cs_202 {i L : Nat} {h : am_H} (hi : i + 6 ≤ L) (hL : L ≤ 3072) (el : h.2 392 0 = (Int32.ofNat L)) (K : J2 h h) (d : Nat) : LawStep d 202 i h := by
  intro x5 x6
  obtain ⟨v, h1, h2, e1, e2, J, f1, f2, f3, f4, n⟩ := ansS d (T_shut) (sdF0 []) (sdR0 []) K
  have s0 := sl_of el hL
  have s1 := sl_of ((congrFun f2 0).trans el) hL
  refine ⟨h2, x5, x6, ?_, J, f3, f4, n⟩
  simp -implicitDefEqProofs (disch := (first | omega | assumption | exact am_isS_3 | exact am_isS_25 | exact am_isX_356 | exact am_isX_359)) only [ggW_law__202, ggW_law__203, ccW_law__202_2, ccW_law__202_1, s0, s1, f1, e1, e2, am_kI_x, am_kV_x, am_kI_i, am_nI_i, am_kV_i, am_nV_i, ↓reduceIte, eq_self, if_true, if_false, c_in, c_tn, pn_add, pn_mul, pn_subc, pn_addm, c_le_t, c_le_f, c_lt_t, c_lt_f, c_eq_f, c_eqm, bi_z, bi_1, bi_b, bi_T, bi_F, ite_not, up_eq, up_ne, or_self, or_true, true_or, or_false, false_or, and_true, true_and, and_self, not_true_eq_false, not_false_eq_true, Bool.false_eq_true]
theorem cs_204 {i L : Nat} {h : am_H} (hi : i + 6 ≤ L) (hL : L ≤ 3072) (el : h.2 392 0 = (Int32.ofNat L)) (K : J2 h h) (d : Nat) : LawStep d 204 i h := by
  intro x5 x6
  obtain ⟨v, h1, h2, e1, e2, J, f1, f2, f3, f4, n⟩ := ansS d (T_open) (sdF0 []) (sdR0 []) K
  have s0 := sl_of el hL
  have s1 := sl_of ((congrFun f2 0).trans el) hL
  refine ⟨h2, x5, x6, ?_, J, f3, f4, n⟩
  simp -implicitDefEqProofs (disch := (first | omega | assumption | exact am_isS_3 | exact am_isS_25 | exact am_isX_356 | exact am_isX_359)) only [ggW_law__204, ggW_law__205, ccW_law__204_2, ccW_law__204_1, s0, s1, f1, e1, e2, am_kI_x, am_kV_x, am_kI_i, am_nI_i, am_kV_i, am_nV_i, ↓reduceIte, eq_self, if_true, if_false, c_in, c_tn, pn_add, pn_mul, pn_subc, pn_addm, c_le_t, c_le_f, c_lt_t, c_lt_f, c_eq_f, c_eqm, bi_z, bi_1, bi_b, bi_T, bi_F, ite_not, up_eq, up_ne, or_self, or_true, true_or, or_false, false_or, and_true, true_and, and_self, not_true_eq_false, not_false_eq_true, Bool.false_eq_true]
theorem cs_206 {i L : Nat} {h : am_H} (hi : i + 6 ≤ L) (hL : L ≤ 3072) (el : h.2 392 0 = (Int32.ofNat L)) (K : J2 h h) (d : Nat) : LawStep d 206 i h := by
  intro x5 x6
  obtain ⟨v, h1, h2, e1, e2, J, f1, f2, f3, f4, n⟩ := ansS d (T_knotted) (sdF0 []) (sdR0 []) K
  have s0 := sl_of el hL
  have s1 := sl_of ((congrFun f2 0).trans el) hL
  refine ⟨h2, x5, x6, ?_, J, f3, f4, n⟩
  simp -implicitDefEqProofs (disch := (first | omega | assumption | exact am_isS_3 | exact am_isS_25 | exact am_isX_356 | exact am_isX_359)) only [ggW_law__206, ggW_law__207, ccW_law__206_2, ccW_law__206_1, s0, s1, f1, e1, e2, am_kI_x, am_kV_x, am_kI_i, am_nI_i, am_kV_i, am_nV_i, ↓reduceIte, eq_self, if_true, if_false, c_in, c_tn, pn_add, pn_mul, pn_subc, pn_addm, c_le_t, c_le_f, c_lt_t, c_lt_f, c_eq_f, c_eqm, bi_z, bi_1, bi_b, bi_T, bi_F, ite_not, up_eq, up_ne, or_self, or_true, true_or, or_false, false_or, and_true, true_and, and_self, not_true_eq_false, not_false_eq_true, Bool.false_eq_true]
theorem cs_208 {i L : Nat} {h : am_H} (hi : i + 6 ≤ L) (hL : L ≤ 3072) (el : h.2 392 0 = (Int32.ofNat L)) (K : J2 h h) (d : Nat) : LawStep d 208 i h := by
  intro x5 x6
  obtain ⟨v, h1, h2, e1, e2, J, f1, f2, f3, f4, n⟩ := ansS d (T_content) (sdF0 []) (sdR0 []) K
  have s0 := sl_of el hL
  have s1 := sl_of ((congrFun f2 0).trans el) hL
  refine ⟨h2, x5, x6, ?_, J, f3, f4, n⟩
  simp -implicitDefEqProofs (disch := (first | omega | assumption | exact am_isS_3 | exact am_isS_25 | exact am_isX_356 | exact am_isX_359)) only [ggW_law__208, ggW_law__209, ccW_law__208_2, ccW_law__208_1, s0, s1, f1, e1, e2, am_kI_x, am_kV_x, am_kI_i, am_nI_i, am_kV_i, am_nV_i, ↓reduceIte, eq_self, if_true, if_false, c_in, c_tn, pn_add, pn_mul, pn_subc, pn_addm, c_le_t, c_le_f, c_lt_t, c_lt_f, c_eq_f, c_eqm, bi_z, bi_1, bi_b, bi_T, bi_F, ite_not, up_eq, up_ne, or_self, or_true, true_or, or_false, false_or, and_true, true_and, and_self, not_true_eq_false, not_false_eq_true, Bool.false_eq_true]
theorem cs_210 {i L : Nat} {h : am_H} (hi : i + 6 ≤ L) (hL : L ≤ 3072) (el : h.2 392 0 = (Int32.ofNat L)) (K : J2 h h) (d : Nat) : LawStep d 210 i h := by
  intro x5 x6
  obtain ⟨v, h1, h2, e1, e2, J, f1, f2, f3, f4, n⟩ := ansS d (T_richest) (sdF0 []) (sdR0 []) K
  have s0 := sl_of el hL
  have s1 := sl_of ((congrFun f2 0).trans el) hL
  refine ⟨h2, x5, x6, ?_, J, f3, f4, n⟩
  simp -implicitDefEqProofs (disch := (first | omega | assumption | exact am_isS_3 | exact am_isS_25 | exact am_isX_356 | exact am_isX_359)) only [ggW_law__210, ggW_law__211, ccW_law__210_2, ccW_law__210_1, s0, s1, f1, e1, e2, am_kI_x, am_kV_x, am_kI_i, am_nI_i, am_kV_i, am_nV_i, ↓reduceIte, eq_self, if_true, if_false, c_in, c_tn, pn_add, pn_mul, pn_subc, pn_addm, c_le_t, c_le_f, c_lt_t, c_lt_f, c_eq_f, c_eqm, bi_z, bi_1, bi_b, bi_T, bi_F, ite_not, up_eq, up_ne, or_self, or_true, true_or, or_false, false_or, and_true, true_and, and_self, not_true_eq_false, not_false_eq_true, Bool.false_eq_true]
theorem cs_212 {i L : Nat} {h : am_H} (hi : i + 6 ≤ L) (hL : L ≤ 3072) (el : h.2 392 0 = (Int32.ofNat L)) (K : J2 h h) (d : Nat) : LawStep d 212 i h := by
  intro x5 x6
  obtain ⟨v, h1, h2, e1, e2, J, f1, f2, f3, f4, n⟩ := ansS d (T_oldest) (sdF0 []) (sdR0 []) K
  have s0 := sl_of el hL
  have s1 := sl_of ((congrFun f2 0).trans el) hL
  refine ⟨h2, x5, x6, ?_, J, f3, f4, n⟩
  simp -implicitDefEqProofs (disch := (first | omega | assumption | exact am_isS_3 | exact am_isS_25 | exact am_isX_356 | exact am_isX_359)) only [ggW_law__212, ggW_law__213, ccW_law__212_2, ccW_law__212_1, s0, s1, f1, e1, e2, am_kI_x, am_kV_x, am_kI_i, am_nI_i, am_kV_i, am_nV_i, ↓reduceIte, eq_self, if_true, if_false, c_in, c_tn, pn_add, pn_mul, pn_subc, pn_addm, c_le_t, c_le_f, c_lt_t, c_lt_f, c_eq_f, c_eqm, bi_z, bi_1, bi_b, bi_T, bi_F, ite_not, up_eq, up_ne, or_self, or_true, true_or, or_false, false_or, and_true, true_and, and_self, not_true_eq_false, not_false_eq_true, Bool.false_eq_true]
theorem cs_214 {i L : Nat} {h : am_H} (hi : i + 6 ≤ L) (hL : L ≤ 3072) (el : h.2 392 0 = (Int32.ofNat L)) (K : J2 h h) (d : Nat) : LawStep d 214 i h := by
  intro x5 x6
  obtain ⟨v, h1, h2, e1, e2, J, f1, f2, f3, f4, n⟩ := ansS d (T_twins) (sdF0 []) (sdR0 []) K
  have s0 := sl_of el hL
  have s1 := sl_of ((congrFun f2 0).trans el) hL
  refine ⟨h2, x5, x6, ?_, J, f3, f4, n⟩
  simp -implicitDefEqProofs (disch := (first | omega | assumption | exact am_isS_3 | exact am_isS_25 | exact am_isX_356 | exact am_isX_359)) only [ggW_law__214, ggW_law__215, ccW_law__214_2, ccW_law__214_1, s0, s1, f1, e1, e2, am_kI_x, am_kV_x, am_kI_i, am_nI_i, am_kV_i, am_nV_i, ↓reduceIte, eq_self, if_true, if_false, c_in, c_tn, pn_add, pn_mul, pn_subc, pn_addm, c_le_t, c_le_f, c_lt_t, c_lt_f, c_eq_f, c_eqm, bi_z, bi_1, bi_b, bi_T, bi_F, ite_not, up_eq, up_ne, or_self, or_true, true_or, or_false, false_or, and_true, true_and, and_self, not_true_eq_false, not_false_eq_true, Bool.false_eq_true]
theorem cs_264 {i L : Nat} {h : am_H} (hi : i + 6 ≤ L) (hL : L ≤ 3072) (el : h.2 392 0 = (Int32.ofNat L)) (K : J2 h h) (d : Nat) : LawStep d 264 i h := by
  intro x5 x6
  obtain ⟨v, h1, h2, e1, e2, J, f1, f2, f3, f4, n⟩ := ansS d (T_seed (h.2 391 (i + 1))) (sdF0 [h.2 391 (i + 1)]) (sdR0 [h.2 391 (i + 1)]) K
  have s0 := sl_of el hL
  have s1 := sl_of ((congrFun f2 0).trans el) hL
  refine ⟨h2, x5, x6, ?_, J, f3, f4, n⟩
  simp -implicitDefEqProofs (disch := (first | omega | assumption | exact am_isS_3 | exact am_isS_25 | exact am_isX_356 | exact am_isX_359)) only [ggW_law__264, ggW_law__265, ccW_law__264_2, ccW_law__264_1, s0, s1, f1, e1, e2, am_kI_x, am_kV_x, am_kI_i, am_nI_i, am_kV_i, am_nV_i, ↓reduceIte, eq_self, if_true, if_false, c_in, c_tn, pn_add, pn_mul, pn_subc, pn_addm, c_le_t, c_le_f, c_lt_t, c_lt_f, c_eq_f, c_eqm, bi_z, bi_1, bi_b, bi_T, bi_F, ite_not, up_eq, up_ne, or_self, or_true, true_or, or_false, false_or, and_true, true_and, and_self, not_true_eq_false, not_false_eq_true, Bool.false_eq_true]
theorem cs_266 {i L : Nat} {h : am_H} (hi : i + 6 ≤ L) (hL : L ≤ 3072) (el : h.2 392 0 = (Int32.ofNat L)) (K : J2 h h) (d : Nat) : LawStep d 266 i h := by
  intro x5 x6
  obtain ⟨v, h1, h2, e1, e2, J, f1, f2, f3, f4, n⟩ := ansS d (T_undo) (sdF0 []) (sdR0 []) K
  have s0 := sl_of el hL
  have s1 := sl_of ((congrFun f2 0).trans el) hL
  refine ⟨h2, x5, x6, ?_, J, f3, f4, n⟩
  simp -implicitDefEqProofs (disch := (first | omega | assumption | exact am_isS_3 | exact am_isS_25 | exact am_isX_356 | exact am_isX_359)) only [ggW_law__266, ggW_law__267, ccW_law__266_2, ccW_law__266_1, s0, s1, f1, e1, e2, am_kI_x, am_kV_x, am_kI_i, am_nI_i, am_kV_i, am_nV_i, ↓reduceIte, eq_self, if_true, if_false, c_in, c_tn, pn_add, pn_mul, pn_subc, pn_addm, c_le_t, c_le_f, c_lt_t, c_lt_f, c_eq_f, c_eqm, bi_z, bi_1, bi_b, bi_T, bi_F, ite_not, up_eq, up_ne, or_self, or_true, true_or, or_false, false_or, and_true, true_and, and_self, not_true_eq_false, not_false_eq_true, Bool.false_eq_true]
theorem cs_269 {i L : Nat} {h : am_H} (hi : i + 6 ≤ L) (hL : L ≤ 3072) (el : h.2 392 0 = (Int32.ofNat L)) (K : J2 h h) (d : Nat) : LawStep d 269 i h := by
  intro x5 x6
  obtain ⟨v, h1, h2, e1, e2, J, f1, f2, f3, f4, n⟩ := ansS d (T_back) (sdF0 []) (sdR0 []) K
  have s0 := sl_of el hL
  have s1 := sl_of ((congrFun f2 0).trans el) hL
  refine ⟨h2, x5, x6, ?_, J, f3, f4, n⟩
  simp -implicitDefEqProofs (disch := (first | omega | assumption | exact am_isS_3 | exact am_isS_25 | exact am_isX_356 | exact am_isX_359)) only [ggW_law__269, ggW_law__270, ccW_law__269_2, ccW_law__269_1, s0, s1, f1, e1, e2, am_kI_x, am_kV_x, am_kI_i, am_nI_i, am_kV_i, am_nV_i, ↓reduceIte, eq_self, if_true, if_false, c_in, c_tn, pn_add, pn_mul, pn_subc, pn_addm, c_le_t, c_le_f, c_lt_t, c_lt_f, c_eq_f, c_eqm, bi_z, bi_1, bi_b, bi_T, bi_F, ite_not, up_eq, up_ne, or_self, or_true, true_or, or_false, false_or, and_true, true_and, and_self, not_true_eq_false, not_false_eq_true, Bool.false_eq_true]
theorem cs_271 {i L : Nat} {h : am_H} (hi : i + 6 ≤ L) (hL : L ≤ 3072) (el : h.2 392 0 = (Int32.ofNat L)) (K : J2 h h) (d : Nat) : LawStep d 271 i h := by
  intro x5 x6
  obtain ⟨v, h1, h2, e1, e2, J, f1, f2, f3, f4, n⟩ := ansS d (T_count (h.2 391 (i + 1))) (sdF0 [h.2 391 (i + 1)]) (sdR0 [h.2 391 (i + 1)]) K
  have s0 := sl_of el hL
  have s1 := sl_of ((congrFun f2 0).trans el) hL
  refine ⟨h2, x5, x6, ?_, J, f3, f4, n⟩
  simp -implicitDefEqProofs (disch := (first | omega | assumption | exact am_isS_3 | exact am_isS_25 | exact am_isX_356 | exact am_isX_359)) only [ggW_law__271, ggW_law__272, ccW_law__271_2, ccW_law__271_1, s0, s1, f1, e1, e2, am_kI_x, am_kV_x, am_kI_i, am_nI_i, am_kV_i, am_nV_i, ↓reduceIte, eq_self, if_true, if_false, c_in, c_tn, pn_add, pn_mul, pn_subc, pn_addm, c_le_t, c_le_f, c_lt_t, c_lt_f, c_eq_f, c_eqm, bi_z, bi_1, bi_b, bi_T, bi_F, ite_not, up_eq, up_ne, or_self, or_true, true_or, or_false, false_or, and_true, true_and, and_self, not_true_eq_false, not_false_eq_true, Bool.false_eq_true]
theorem imgS (d : Nat) {h : am_H} (K : J2 h h) : ∃ h1 h2, am_cl (d + 121) qF_image [.ref 0] h = some (.inl none, h1) ∧ am_cl (d + 121) qR_image [.ref 373] h1 = some (.inl none, h2) ∧ J2 h2 h2 ∧ h2.2 391 = h.2 391 ∧ h2.2 392 = h.2 392 ∧ h2.1 ≤ h.1 + 1 := by
  obtain ⟨h1, _, _, a1, _, a2, _⟩ := T_image (d + 1) h h K
  have a2 : am_cl (d + 121) qF_image [.ref 0] h = some (.inl none, h1) := a2
  have f : ∀ p, 373 ≤ p → p < 1000 → h1.2 p = h.2 p := fun p q1 q2 => am_frF (sdF0 []) a2 ⟨q1, q2⟩
  have K1 : J2 h h1 := K.side (fun _ _ => rfl) (fun p q1 q2 => f p q1 (by omega))
  obtain ⟨h1', h2, J, b1, b2, b3, b4⟩ := T_image (d + 1) h h1 K1
  have b3 : am_cl (d + 121) qF_image [.ref 0] h = some (.inl none, h1') := b3
  have b4 : am_cl (d + 121) qR_image [.ref 373] h1 = some (.inl none, h2) := b4
  rw [a2] at b3
  cases b3
  refine ⟨h1, h2, a2, b4, J.side (fun p q => by rw [am_frR (sdR0 []) b4 q]) (fun _ _ _ => rfl), ?_, ?_, by omega⟩
  · rw [am_frR2 (sdR0 []) b4 ⟨by omega, by omega⟩, f 391 (by omega) (by omega)]
  · rw [am_frR2 (sdR0 []) b4 ⟨by omega, by omega⟩, f 392 (by omega) (by omega)]
theorem cs_268 {i L : Nat} {h : am_H} (hi : i + 6 ≤ L) (hL : L ≤ 3072) (el : h.2 392 0 = (Int32.ofNat L)) (K : J2 h h) (d : Nat) : LawStep d 268 i h := by
  intro x5 x6
  obtain ⟨h1, h2, e1, e2, J, f3, f4, n⟩ := imgS d K
  refine ⟨h2, x5, x6, ?_, J, f3, f4, n⟩
  simp -implicitDefEqProofs (disch := (first | omega | assumption | exact am_isS_3 | exact am_isS_25 | exact am_isX_356 | exact am_isX_359)) only [ggW_law__268, ccW_law__268_2, ccW_law__268_1, e1, e2, am_kI_x, am_kV_x, am_kI_i, am_nI_i, am_kV_i, am_nV_i, ↓reduceIte, eq_self, if_true, if_false, c_in, c_tn, pn_add, pn_mul, pn_subc, pn_addm, c_le_t, c_le_f, c_lt_t, c_lt_f, c_eq_f, c_eqm, bi_z, bi_1, bi_b, bi_T, bi_F, ite_not, up_eq, up_ne, or_self, or_true, true_or, or_false, false_or, and_true, true_and, and_self, not_true_eq_false, not_false_eq_true, Bool.false_eq_true]
