/-! a law's codes, put by both -/
def emt (h : am_H) (l : Nat) (k v : Int32) : am_H := am_up (am_up (am_up h 374 (1313 + 2 * l) k) 374 (1313 + 2 * l + 1) v) 373 16 (Int32.ofNat (l + 1))
def ptc (h : am_H) (l : Nat) (x : Int32) : am_H := am_up (am_up h 346 l x) 342 7 (Int32.ofNat (l + 1))
theorem xL_put {h : am_H} {l : Nat} (e : h.2 342 7 = (Int32.ofNat l)) (hl : l < 400) (x : Int32) (d : Nat) : am_cl (d + 1) qL_put [.ref 342, .int x] h = some (.inl (some ((Int32.ofNat 1))), ptc h l x) := by
  unfold ptc
  simp -implicitDefEqProofs (disch := (first | omega | assumption | exact am_isS_3 | exact am_isS_25 | exact am_isX_356 | exact am_isX_359)) only [uL_put, ggL_put_0, ggL_put_1, ggL_put_2, e, am_kI_x, am_kV_x, am_kI_i, am_nI_i, am_kV_i, am_nV_i, ↓reduceIte, eq_self, if_true, if_false, c_in, c_tn, pn_add, pn_mul, pn_subc, pn_addm, c_le_t, c_le_f, c_lt_t, c_lt_f, c_eq_f, c_eqm, bi_z, bi_1, bi_b, bi_T, bi_F, ite_not, up_eq, up_ne, or_self, or_true, true_or, or_false, false_or, and_true, true_and, and_self, not_true_eq_false, not_false_eq_true, Bool.false_eq_true]
theorem rR_emits {h : am_H} {l p b : Nat} (e : h.2 373 16 = (Int32.ofNat l)) (hl : l < 400) (k v : Int32) (d : Nat) : am_cl (d + 1) qR_emits [.ref 373, .int k, .int v] (rs h p b) = some (.inl none, rs (emt h l k v) p b) := by
  unfold emt
  have e' : (rs h p b).2 373 16 = (Int32.ofNat l) := by rw [rs_ne (by omega)]; exact e
  have eq : rs (am_up (am_up (am_up h 374 (1313 + 2 * l) k) 374 (1313 + 2 * l + 1) v) 373 16 (Int32.ofNat (l + 1))) p b = am_up (am_up (am_up (rs h p b) 374 (1313 + 2 * l) k) 374 (1313 + 2 * l + 1) v) 373 16 (Int32.ofNat (l + 1)) := by rw [rs_up (by omega), rs_up (by omega), rs_up (by omega)]
  rw [eq]
  simp -implicitDefEqProofs (disch := (first | omega | assumption | exact am_isS_3 | exact am_isS_25 | exact am_isX_356 | exact am_isX_359)) only [uR_emits, ggR_emits_0, e', am_kI_x, am_kV_x, am_kI_i, am_nI_i, am_kV_i, am_nV_i, ↓reduceIte, eq_self, if_true, if_false, c_in, c_tn, pn_add, pn_mul, pn_subc, pn_addm, c_le_t, c_le_f, c_lt_t, c_lt_f, c_eq_f, c_eqm, bi_z, bi_1, bi_b, bi_T, bi_F, ite_not, up_eq, up_ne, or_self, or_true, true_or, or_false, false_or, and_true, true_and, and_self, not_true_eq_false, not_false_eq_true, Bool.false_eq_true]
def Kof (h : am_H) (j : Nat) : Nat := (h.2 374 (1313 + 2 * j)).toBitVec.toNat
def Nof (h : am_H) (j : Nat) : Int32 := h.2 374 (1313 + 2 * j + 1)
theorem tyR_S {K : Nat → Nat} : ∀ (n j : Nat) (ts : List Bool), tyR K (n + 1) j ts = match tyR K n j ts with
    | some r => tyk (K (j + n)) r
    | none => none := by
  intro n
  induction n with
  | zero =>
    intro j ts
    show (match tyk (K j) ts with
      | some ts' => tyR K 0 (j + 1) ts'
      | none => none) = tyk (K (j + 0)) ts
    rw [Nat.add_zero]
    cases tyk (K j) ts with
    | none => rfl
    | some r => rfl
  | succ n ih =>
    intro j ts
    show (match tyk (K j) ts with
      | some ts' => tyR K (n + 1) (j + 1) ts'
      | none => none) = match (match tyk (K j) ts with
        | some ts' => tyR K n (j + 1) ts'
        | none => none) with
      | some r => tyk (K (j + (n + 1))) r
      | none => none
    cases tyk (K j) ts with
    | none => rfl
    | some r =>
      show tyR K (n + 1) (j + 1) r = _
      rw [ih (j + 1) r, show j + 1 + n = j + (n + 1) by omega]
theorem tyR_congr {K K' : Nat → Nat} : ∀ (n j : Nat) (ts : List Bool), (∀ i, j ≤ i → i < j + n → K' i = K i) → tyR K' n j ts = tyR K n j ts := by
  intro n
  induction n with
  | zero => intro j ts _; rfl
  | succ n ih =>
    intro j ts h
    rw [tyR_S, tyR_S, ih j ts (fun i h1 h2 => h i h1 (by omega)), h (j + n) (by omega) (by omega)]
/-- where both stand in a line's condition -/
def CB (B : Nat → Nat) (E n e a l dp : Nat) (ts : List Bool) (hC hR : am_H) : Prop := TV hC 359 B E n ∧ hC.2 359 3 = (Int32.ofNat a) ∧ a ≤ n ∧ rtp hR B E ∧ hC.2 342 7 = (Int32.ofNat l) ∧ hR.2 373 16 = (Int32.ofNat l) ∧ hR.2 373 13 = (Int32.ofNat dp) ∧ e ≤ l ∧ (∀ j, j < l → Kof hR j < 18 ∧ cR (hC.2 346 j) (Kof hR j) (Nof hR j)) ∧ tyR (Kof hR) (l - e) e [] = some ts
/-- what stays as it was -/
def CF (l : Nat) (hC hC' hR hR' : am_H) : Prop := hC'.1 = hC.1 ∧ (∀ p i, p ≠ 346 → (p ≠ 342 ∨ i ≠ 7) → (p ≠ 359 ∨ i ≠ 3) → hC'.2 p i = hC.2 p i) ∧ (∀ j, j < l → hC'.2 346 j = hC.2 346 j) ∧ hR'.1 = hR.1 ∧ (∀ p i, p ≠ 374 → (p ≠ 373 ∨ i ≠ 10 ∧ i ≠ 12 ∧ i ≠ 13 ∧ i ≠ 16) → hR'.2 p i = hR.2 p i) ∧ ∀ j, j < 1313 + 2 * l → hR'.2 374 j = hR.2 374 j
theorem CF.rfl' {l : Nat} {hC hR : am_H} : CF l hC hC hR hR := ⟨rfl, fun _ _ _ _ _ => rfl, fun _ _ => rfl, rfl, fun _ _ _ _ => rfl, fun _ _ => rfl⟩
theorem CF.tr {l l' : Nat} {hC hC1 hC2 hR hR1 hR2 : am_H} (f : CF l hC hC1 hR hR1) (g : CF l' hC1 hC2 hR1 hR2) (h : l ≤ l') : CF l hC hC2 hR hR2 := ⟨g.1.trans f.1, fun p i q1 q2 q3 => (g.2.1 p i q1 q2 q3).trans (f.2.1 p i q1 q2 q3), fun j hj => (g.2.2.1 j (by omega)).trans (f.2.2.1 j hj), g.2.2.2.1.trans f.2.2.2.1, fun p i q1 q2 => (g.2.2.2.2.1 p i q1 q2).trans (f.2.2.2.2.1 p i q1 q2), fun j hj => (g.2.2.2.2.2 j (by omega)).trans (f.2.2.2.2.2 j hj)⟩
theorem CF.at {l : Nat} {hC hR : am_H} {v : Int32} : CF l hC (am_up hC 359 3 v) hR hR := ⟨rfl, fun p i q1 q2 q3 => up_ne (by omega), fun j hj => up_ne (by omega), rfl, fun _ _ _ _ => rfl, fun _ _ => rfl⟩
theorem CF.dp {l : Nat} {hC hR : am_H} {v : Int32} : CF l hC hC hR (am_up hR 373 13 v) := ⟨rfl, fun _ _ _ _ _ => rfl, fun _ _ => rfl, rfl, fun p i q1 q2 => up_ne (by omega), fun j hj => up_ne (by omega)⟩
theorem CF.em {l l' : Nat} {hC hR : am_H} {k v : Int32} (h : l ≤ l') : CF l hC hC hR (emt hR l' k v) := ⟨rfl, fun _ _ _ _ _ => rfl, fun _ _ => rfl, rfl, fun p i q1 q2 => by unfold emt; rw [up_ne (by omega), up_ne (by omega), up_ne (by omega)], fun j hj => by unfold emt; rw [up_ne (by omega), up_ne (by omega), up_ne (by omega)]⟩
theorem CF.pt {l l' : Nat} {hC hR : am_H} {x : Int32} (h : l ≤ l') : CF l hC (ptc hC l' x) hR hR := ⟨rfl, fun p i q1 q2 q3 => by unfold ptc; rw [up_ne (by omega), up_ne (by omega)], fun j hj => by unfold ptc; rw [up_ne (by omega), up_ne (by omega)], rfl, fun _ _ _ _ => rfl, fun _ _ => rfl⟩
theorem CB.put {B : Nat → Nat} {E n e a l dp : Nat} {ts ts' : List Bool} {hC hR : am_H} (S : CB B E n e a l dp ts hC hR) {k : Nat} {x v : Int32} (hk : k < 18) (ht : tyk k ts = some ts') (hc : cR x k v) : CB B E n e a (l + 1) dp ts' (ptc hC l x) (emt hR l (Int32.ofNat k) v) := by
  obtain ⟨s1, s2, s3, s4, s5, s6, s7, s8, s9, s10⟩ := S
  have c1 : ∀ p i, p ≠ 346 → (p ≠ 342 ∨ i ≠ 7) → (ptc hC l x).2 p i = hC.2 p i := fun p i q1 q2 => by unfold ptc; rw [up_ne (by omega), up_ne (by omega)]
  have r1 : ∀ p i, p ≠ 374 → (p ≠ 373 ∨ i ≠ 16) → (emt hR l (Int32.ofNat k) v).2 p i = hR.2 p i := fun p i q1 q2 => by unfold emt; rw [up_ne (by omega), up_ne (by omega), up_ne (by omega)]
  have kj : ∀ j, j < l → Kof (emt hR l (Int32.ofNat k) v) j = Kof hR j ∧ Nof (emt hR l (Int32.ofNat k) v) j = Nof hR j := fun j hj => by
    unfold Kof Nof emt
    rw [up_ne (by omega), up_ne (by omega), up_ne (by omega), up_ne (by omega), up_ne (by omega), up_ne (by omega)]
    exact ⟨rfl, rfl⟩
  have kl : Kof (emt hR l (Int32.ofNat k) v) l = k := by
    unfold Kof emt
    rw [up_ne (by omega), up_ne (by omega), up_eq rfl rfl]
    show (BitVec.ofNat 32 k).toNat = k
    rw [BitVec.toNat_ofNat]
    exact Nat.mod_eq_of_lt (by omega)
  have nl : Nof (emt hR l (Int32.ofNat k) v) l = v := by
    unfold Nof emt
    rw [up_ne (by omega), up_eq rfl rfl]
  refine ⟨s1.of (c1 _ _ (by omega) (by omega)) (funext fun i => c1 _ _ (by omega) (by omega)) (funext fun i => c1 _ _ (by omega) (by omega)), (c1 _ _ (by omega) (by omega)).trans s2, s3, s4.of (r1 _ _ (by omega) (by omega)) (funext fun i => r1 _ _ (by omega) (by omega)), by unfold ptc; exact up_eq rfl rfl, by unfold emt; exact up_eq rfl rfl, (r1 _ _ (by omega) (by omega)).trans s7, by omega, fun j hj => ?_, ?_⟩
  · by_cases z : j = l
    · subst z
      rw [kl, nl]
      refine ⟨hk, ?_⟩
      unfold ptc
      rw [up_ne (by omega), up_eq rfl rfl]
      exact hc
    · rw [(kj j (by omega)).1, (kj j (by omega)).2]
      unfold ptc
      rw [up_ne (by omega), up_ne (by omega)]
      exact s9 j (by omega)
  · rw [show l + 1 - e = (l - e) + 1 by omega, tyR_S, tyR_congr (l - e) e [] (fun i h1 h2 => (kj i (by omega)).1), s10]
    show tyk (Kof (emt hR l (Int32.ofNat k) v) (e + (l - e))) ts = _
    rw [show e + (l - e) = l by omega, kl]
    exact ht
theorem CB.at {B : Nat → Nat} {E n e a a' l dp : Nat} {ts : List Bool} {hC hR : am_H} (S : CB B E n e a l dp ts hC hR) (h : a' ≤ n) : CB B E n e a' l dp ts (am_up hC 359 3 (Int32.ofNat a')) hR := by
  obtain ⟨s1, s2, s3, s4, s5, s6, s7, s8, s9, s10⟩ := S
  exact ⟨s1.up (by omega), up_eq rfl rfl, h, s4, by rw [up_ne (by omega)]; exact s5, s6, s7, s8, fun j hj => by rw [up_ne (by omega)]; exact s9 j hj, s10⟩
theorem CB.dp {B : Nat → Nat} {E n e a l dp dp' : Nat} {ts : List Bool} {hC hR : am_H} (S : CB B E n e a l dp ts hC hR) : CB B E n e a l dp' ts hC (am_up hR 373 13 (Int32.ofNat dp')) := by
  obtain ⟨s1, s2, s3, s4, s5, s6, s7, s8, s9, s10⟩ := S
  have kj : ∀ j, Kof (am_up hR 373 13 (Int32.ofNat dp')) j = Kof hR j ∧ Nof (am_up hR 373 13 (Int32.ofNat dp')) j = Nof hR j := fun j => by
    unfold Kof Nof
    rw [up_ne (by omega), up_ne (by omega)]
    exact ⟨rfl, rfl⟩
  exact ⟨s1, s2, s3, s4.up (by omega), s5, by rw [up_ne (by omega)]; exact s6, up_eq rfl rfl, s8, fun j hj => by rw [(kj j).1, (kj j).2]; exact s9 j hj, by rw [tyR_congr (l - e) e [] (fun i h1 h2 => (kj i).1)]; exact s10⟩
/-- what reading a piece comes to: it pushes a place of the kind b -/
def CO (B : Nat → Nat) (E n e a l dp : Nat) (ts : List Bool) (b : Bool) (hC hR : am_H) (cC cR : Option am_R) : Prop :=
  (∃ hC' hR' p a', cC = some (.inl (some ((Int32.ofNat 0))), hC') ∧ cR = some (.inl (some ((Int32.ofNat 0))), rs hR' p (stt B E a')) ∧ hC'.2 359 3 = (Int32.ofNat a') ∧ a' ≤ n ∧ CF l hC hC' hR hR') ∨ (∃ hC' hR' p b' a' l', cC = some (.inl (some ((Int32.ofNat 1))), hC') ∧ cR = some (.inl (some ((Int32.ofNat 1))), rs hR' p b') ∧ Tk B E a' p ∧ a < a' ∧ l < l' ∧ l' + a ≤ l + a' ∧ CB B E n e a' l' dp (b :: ts) hC' hR' ∧ CF l hC hC' hR hR')
theorem rR_wordOfPart {h : am_H} {B : Nat → Nat} {E a : Nat} (T : rtp h B E) (d : Nat) : (∃ f, f < 8 ∧ cdx B E a = (Int32.ofNat (1000 + f)) ∧ am_cl (d + 2) qR_wordOfPart [.ref 373] (rs h (lte B E a) (stt B E a)) = some (.inl (some ((Int32.ofNat f))), rs h (lte B E a) (stt B E a))) ∨ ((∀ f, f < 8 → ¬ cdx B E a = (Int32.ofNat (1000 + f))) ∧ am_cl (d + 2) qR_wordOfPart [.ref 373] (rs h (lte B E a) (stt B E a)) = some (.inl (some (-1)), rs h (lte B E a) (stt B E a))) := by
  have w0 := fun d => rR_isWord (a := a) T (wd_at (id := 28) (w := 0) (by simp)) d
  have w1 := fun d => rR_isWord (a := a) T (wd_at (id := 30) (w := 1) (by simp)) d
  have w2 := fun d => rR_isWord (a := a) T (wd_at (id := 31) (w := 2) (by simp)) d
  have w3 := fun d => rR_isWord (a := a) T (wd_at (id := 25) (w := 3) (by simp)) d
  have w4 := fun d => rR_isWord (a := a) T (wd_at (id := 26) (w := 4) (by simp)) d
  have w5 := fun d => rR_isWord (a := a) T (wd_at (id := 27) (w := 5) (by simp)) d
  have w6 := fun d => rR_isWord (a := a) T (wd_at (id := 43) (w := 6) (by simp)) d
  have w7 := fun d => rR_isWord (a := a) T (wd_at (id := 35) (w := 7) (by simp)) d
  by_cases q0 : cdx B E a = (Int32.ofNat (1000 + 0))
  · simp only [bi_t q0] at w0
    refine Or.inl ⟨0, by omega, q0, ?_⟩
    simp -implicitDefEqProofs (disch := (first | omega | assumption | exact am_isS_3 | exact am_isS_25 | exact am_isX_356 | exact am_isX_359)) only [uR_wordOfPart, ggR_wordOfPart_0, ggR_wordOfPart_1, ggR_wordOfPart_2, ggR_wordOfPart_3, ggR_wordOfPart_4, ggR_wordOfPart_5, ggR_wordOfPart_6, ggR_wordOfPart_7, ggR_wordOfPart_8, ggR_wordOfPart_9, ggR_wordOfPart_10, ggR_wordOfPart_11, ggR_wordOfPart_12, ggR_wordOfPart_13, ggR_wordOfPart_14, ggR_wordOfPart_15, ggR_wordOfPart_16, ggR_wordOfPart_17, ccR_wordOfPart_0_1, ccR_wordOfPart_2_1, ccR_wordOfPart_4_1, ccR_wordOfPart_6_1, ccR_wordOfPart_8_1, ccR_wordOfPart_10_1, ccR_wordOfPart_12_1, ccR_wordOfPart_14_1, w0, am_kI_x, am_kV_x, am_kI_i, am_nI_i, am_kV_i, am_nV_i, ↓reduceIte, eq_self, if_true, if_false, c_in, c_tn, pn_add, pn_mul, pn_subc, pn_addm, c_le_t, c_le_f, c_lt_t, c_lt_f, c_eq_f, c_eqm, bi_z, bi_1, bi_b, bi_T, bi_F, ite_not, up_eq, up_ne, or_self, or_true, true_or, or_false, false_or, and_true, true_and, and_self, not_true_eq_false, not_false_eq_true, Bool.false_eq_true]
  simp only [bi_f q0] at w0
  by_cases q1 : cdx B E a = (Int32.ofNat (1000 + 1))
  · simp only [bi_t q1] at w1
    refine Or.inl ⟨1, by omega, q1, ?_⟩
    simp -implicitDefEqProofs (disch := (first | omega | assumption | exact am_isS_3 | exact am_isS_25 | exact am_isX_356 | exact am_isX_359)) only [uR_wordOfPart, ggR_wordOfPart_0, ggR_wordOfPart_1, ggR_wordOfPart_2, ggR_wordOfPart_3, ggR_wordOfPart_4, ggR_wordOfPart_5, ggR_wordOfPart_6, ggR_wordOfPart_7, ggR_wordOfPart_8, ggR_wordOfPart_9, ggR_wordOfPart_10, ggR_wordOfPart_11, ggR_wordOfPart_12, ggR_wordOfPart_13, ggR_wordOfPart_14, ggR_wordOfPart_15, ggR_wordOfPart_16, ggR_wordOfPart_17, ccR_wordOfPart_0_1, ccR_wordOfPart_2_1, ccR_wordOfPart_4_1, ccR_wordOfPart_6_1, ccR_wordOfPart_8_1, ccR_wordOfPart_10_1, ccR_wordOfPart_12_1, ccR_wordOfPart_14_1, w0, w1, am_kI_x, am_kV_x, am_kI_i, am_nI_i, am_kV_i, am_nV_i, ↓reduceIte, eq_self, if_true, if_false, c_in, c_tn, pn_add, pn_mul, pn_subc, pn_addm, c_le_t, c_le_f, c_lt_t, c_lt_f, c_eq_f, c_eqm, bi_z, bi_1, bi_b, bi_T, bi_F, ite_not, up_eq, up_ne, or_self, or_true, true_or, or_false, false_or, and_true, true_and, and_self, not_true_eq_false, not_false_eq_true, Bool.false_eq_true]
  simp only [bi_f q1] at w1
  by_cases q2 : cdx B E a = (Int32.ofNat (1000 + 2))
  · simp only [bi_t q2] at w2
    refine Or.inl ⟨2, by omega, q2, ?_⟩
    simp -implicitDefEqProofs (disch := (first | omega | assumption | exact am_isS_3 | exact am_isS_25 | exact am_isX_356 | exact am_isX_359)) only [uR_wordOfPart, ggR_wordOfPart_0, ggR_wordOfPart_1, ggR_wordOfPart_2, ggR_wordOfPart_3, ggR_wordOfPart_4, ggR_wordOfPart_5, ggR_wordOfPart_6, ggR_wordOfPart_7, ggR_wordOfPart_8, ggR_wordOfPart_9, ggR_wordOfPart_10, ggR_wordOfPart_11, ggR_wordOfPart_12, ggR_wordOfPart_13, ggR_wordOfPart_14, ggR_wordOfPart_15, ggR_wordOfPart_16, ggR_wordOfPart_17, ccR_wordOfPart_0_1, ccR_wordOfPart_2_1, ccR_wordOfPart_4_1, ccR_wordOfPart_6_1, ccR_wordOfPart_8_1, ccR_wordOfPart_10_1, ccR_wordOfPart_12_1, ccR_wordOfPart_14_1, w0, w1, w2, am_kI_x, am_kV_x, am_kI_i, am_nI_i, am_kV_i, am_nV_i, ↓reduceIte, eq_self, if_true, if_false, c_in, c_tn, pn_add, pn_mul, pn_subc, pn_addm, c_le_t, c_le_f, c_lt_t, c_lt_f, c_eq_f, c_eqm, bi_z, bi_1, bi_b, bi_T, bi_F, ite_not, up_eq, up_ne, or_self, or_true, true_or, or_false, false_or, and_true, true_and, and_self, not_true_eq_false, not_false_eq_true, Bool.false_eq_true]
  simp only [bi_f q2] at w2
  by_cases q3 : cdx B E a = (Int32.ofNat (1000 + 3))
  · simp only [bi_t q3] at w3
    refine Or.inl ⟨3, by omega, q3, ?_⟩
    simp -implicitDefEqProofs (disch := (first | omega | assumption | exact am_isS_3 | exact am_isS_25 | exact am_isX_356 | exact am_isX_359)) only [uR_wordOfPart, ggR_wordOfPart_0, ggR_wordOfPart_1, ggR_wordOfPart_2, ggR_wordOfPart_3, ggR_wordOfPart_4, ggR_wordOfPart_5, ggR_wordOfPart_6, ggR_wordOfPart_7, ggR_wordOfPart_8, ggR_wordOfPart_9, ggR_wordOfPart_10, ggR_wordOfPart_11, ggR_wordOfPart_12, ggR_wordOfPart_13, ggR_wordOfPart_14, ggR_wordOfPart_15, ggR_wordOfPart_16, ggR_wordOfPart_17, ccR_wordOfPart_0_1, ccR_wordOfPart_2_1, ccR_wordOfPart_4_1, ccR_wordOfPart_6_1, ccR_wordOfPart_8_1, ccR_wordOfPart_10_1, ccR_wordOfPart_12_1, ccR_wordOfPart_14_1, w0, w1, w2, w3, am_kI_x, am_kV_x, am_kI_i, am_nI_i, am_kV_i, am_nV_i, ↓reduceIte, eq_self, if_true, if_false, c_in, c_tn, pn_add, pn_mul, pn_subc, pn_addm, c_le_t, c_le_f, c_lt_t, c_lt_f, c_eq_f, c_eqm, bi_z, bi_1, bi_b, bi_T, bi_F, ite_not, up_eq, up_ne, or_self, or_true, true_or, or_false, false_or, and_true, true_and, and_self, not_true_eq_false, not_false_eq_true, Bool.false_eq_true]
  simp only [bi_f q3] at w3
  by_cases q4 : cdx B E a = (Int32.ofNat (1000 + 4))
  · simp only [bi_t q4] at w4
    refine Or.inl ⟨4, by omega, q4, ?_⟩
    simp -implicitDefEqProofs (disch := (first | omega | assumption | exact am_isS_3 | exact am_isS_25 | exact am_isX_356 | exact am_isX_359)) only [uR_wordOfPart, ggR_wordOfPart_0, ggR_wordOfPart_1, ggR_wordOfPart_2, ggR_wordOfPart_3, ggR_wordOfPart_4, ggR_wordOfPart_5, ggR_wordOfPart_6, ggR_wordOfPart_7, ggR_wordOfPart_8, ggR_wordOfPart_9, ggR_wordOfPart_10, ggR_wordOfPart_11, ggR_wordOfPart_12, ggR_wordOfPart_13, ggR_wordOfPart_14, ggR_wordOfPart_15, ggR_wordOfPart_16, ggR_wordOfPart_17, ccR_wordOfPart_0_1, ccR_wordOfPart_2_1, ccR_wordOfPart_4_1, ccR_wordOfPart_6_1, ccR_wordOfPart_8_1, ccR_wordOfPart_10_1, ccR_wordOfPart_12_1, ccR_wordOfPart_14_1, w0, w1, w2, w3, w4, am_kI_x, am_kV_x, am_kI_i, am_nI_i, am_kV_i, am_nV_i, ↓reduceIte, eq_self, if_true, if_false, c_in, c_tn, pn_add, pn_mul, pn_subc, pn_addm, c_le_t, c_le_f, c_lt_t, c_lt_f, c_eq_f, c_eqm, bi_z, bi_1, bi_b, bi_T, bi_F, ite_not, up_eq, up_ne, or_self, or_true, true_or, or_false, false_or, and_true, true_and, and_self, not_true_eq_false, not_false_eq_true, Bool.false_eq_true]
  simp only [bi_f q4] at w4
  by_cases q5 : cdx B E a = (Int32.ofNat (1000 + 5))
  · simp only [bi_t q5] at w5
    refine Or.inl ⟨5, by omega, q5, ?_⟩
    simp -implicitDefEqProofs (disch := (first | omega | assumption | exact am_isS_3 | exact am_isS_25 | exact am_isX_356 | exact am_isX_359)) only [uR_wordOfPart, ggR_wordOfPart_0, ggR_wordOfPart_1, ggR_wordOfPart_2, ggR_wordOfPart_3, ggR_wordOfPart_4, ggR_wordOfPart_5, ggR_wordOfPart_6, ggR_wordOfPart_7, ggR_wordOfPart_8, ggR_wordOfPart_9, ggR_wordOfPart_10, ggR_wordOfPart_11, ggR_wordOfPart_12, ggR_wordOfPart_13, ggR_wordOfPart_14, ggR_wordOfPart_15, ggR_wordOfPart_16, ggR_wordOfPart_17, ccR_wordOfPart_0_1, ccR_wordOfPart_2_1, ccR_wordOfPart_4_1, ccR_wordOfPart_6_1, ccR_wordOfPart_8_1, ccR_wordOfPart_10_1, ccR_wordOfPart_12_1, ccR_wordOfPart_14_1, w0, w1, w2, w3, w4, w5, am_kI_x, am_kV_x, am_kI_i, am_nI_i, am_kV_i, am_nV_i, ↓reduceIte, eq_self, if_true, if_false, c_in, c_tn, pn_add, pn_mul, pn_subc, pn_addm, c_le_t, c_le_f, c_lt_t, c_lt_f, c_eq_f, c_eqm, bi_z, bi_1, bi_b, bi_T, bi_F, ite_not, up_eq, up_ne, or_self, or_true, true_or, or_false, false_or, and_true, true_and, and_self, not_true_eq_false, not_false_eq_true, Bool.false_eq_true]
  simp only [bi_f q5] at w5
  by_cases q6 : cdx B E a = (Int32.ofNat (1000 + 6))
  · simp only [bi_t q6] at w6
    refine Or.inl ⟨6, by omega, q6, ?_⟩
    simp -implicitDefEqProofs (disch := (first | omega | assumption | exact am_isS_3 | exact am_isS_25 | exact am_isX_356 | exact am_isX_359)) only [uR_wordOfPart, ggR_wordOfPart_0, ggR_wordOfPart_1, ggR_wordOfPart_2, ggR_wordOfPart_3, ggR_wordOfPart_4, ggR_wordOfPart_5, ggR_wordOfPart_6, ggR_wordOfPart_7, ggR_wordOfPart_8, ggR_wordOfPart_9, ggR_wordOfPart_10, ggR_wordOfPart_11, ggR_wordOfPart_12, ggR_wordOfPart_13, ggR_wordOfPart_14, ggR_wordOfPart_15, ggR_wordOfPart_16, ggR_wordOfPart_17, ccR_wordOfPart_0_1, ccR_wordOfPart_2_1, ccR_wordOfPart_4_1, ccR_wordOfPart_6_1, ccR_wordOfPart_8_1, ccR_wordOfPart_10_1, ccR_wordOfPart_12_1, ccR_wordOfPart_14_1, w0, w1, w2, w3, w4, w5, w6, am_kI_x, am_kV_x, am_kI_i, am_nI_i, am_kV_i, am_nV_i, ↓reduceIte, eq_self, if_true, if_false, c_in, c_tn, pn_add, pn_mul, pn_subc, pn_addm, c_le_t, c_le_f, c_lt_t, c_lt_f, c_eq_f, c_eqm, bi_z, bi_1, bi_b, bi_T, bi_F, ite_not, up_eq, up_ne, or_self, or_true, true_or, or_false, false_or, and_true, true_and, and_self, not_true_eq_false, not_false_eq_true, Bool.false_eq_true]
  simp only [bi_f q6] at w6
  by_cases q7 : cdx B E a = (Int32.ofNat (1000 + 7))
  · simp only [bi_t q7] at w7
    refine Or.inl ⟨7, by omega, q7, ?_⟩
    simp -implicitDefEqProofs (disch := (first | omega | assumption | exact am_isS_3 | exact am_isS_25 | exact am_isX_356 | exact am_isX_359)) only [uR_wordOfPart, ggR_wordOfPart_0, ggR_wordOfPart_1, ggR_wordOfPart_2, ggR_wordOfPart_3, ggR_wordOfPart_4, ggR_wordOfPart_5, ggR_wordOfPart_6, ggR_wordOfPart_7, ggR_wordOfPart_8, ggR_wordOfPart_9, ggR_wordOfPart_10, ggR_wordOfPart_11, ggR_wordOfPart_12, ggR_wordOfPart_13, ggR_wordOfPart_14, ggR_wordOfPart_15, ggR_wordOfPart_16, ggR_wordOfPart_17, ccR_wordOfPart_0_1, ccR_wordOfPart_2_1, ccR_wordOfPart_4_1, ccR_wordOfPart_6_1, ccR_wordOfPart_8_1, ccR_wordOfPart_10_1, ccR_wordOfPart_12_1, ccR_wordOfPart_14_1, w0, w1, w2, w3, w4, w5, w6, w7, am_kI_x, am_kV_x, am_kI_i, am_nI_i, am_kV_i, am_nV_i, ↓reduceIte, eq_self, if_true, if_false, c_in, c_tn, pn_add, pn_mul, pn_subc, pn_addm, c_le_t, c_le_f, c_lt_t, c_lt_f, c_eq_f, c_eqm, bi_z, bi_1, bi_b, bi_T, bi_F, ite_not, up_eq, up_ne, or_self, or_true, true_or, or_false, false_or, and_true, true_and, and_self, not_true_eq_false, not_false_eq_true, Bool.false_eq_true]
  simp only [bi_f q7] at w7
  refine Or.inr ⟨fun f hf => ?_, ?_⟩
  · rcases (show f = 0 ∨ f = 1 ∨ f = 2 ∨ f = 3 ∨ f = 4 ∨ f = 5 ∨ f = 6 ∨ f = 7 by omega) with rfl | rfl | rfl | rfl | rfl | rfl | rfl | rfl
    all_goals assumption
  · simp -implicitDefEqProofs (disch := (first | omega | assumption | exact am_isS_3 | exact am_isS_25 | exact am_isX_356 | exact am_isX_359)) only [uR_wordOfPart, ggR_wordOfPart_0, ggR_wordOfPart_1, ggR_wordOfPart_2, ggR_wordOfPart_3, ggR_wordOfPart_4, ggR_wordOfPart_5, ggR_wordOfPart_6, ggR_wordOfPart_7, ggR_wordOfPart_8, ggR_wordOfPart_9, ggR_wordOfPart_10, ggR_wordOfPart_11, ggR_wordOfPart_12, ggR_wordOfPart_13, ggR_wordOfPart_14, ggR_wordOfPart_15, ggR_wordOfPart_16, ggR_wordOfPart_17, ccR_wordOfPart_0_1, ccR_wordOfPart_2_1, ccR_wordOfPart_4_1, ccR_wordOfPart_6_1, ccR_wordOfPart_8_1, ccR_wordOfPart_10_1, ccR_wordOfPart_12_1, ccR_wordOfPart_14_1, w0, w1, w2, w3, w4, w5, w6, w7, am_kI_x, am_kV_x, am_kI_i, am_nI_i, am_kV_i, am_nV_i, ↓reduceIte, eq_self, if_true, if_false, c_in, c_tn, pn_add, pn_mul, pn_subc, pn_addm, c_le_t, c_le_f, c_lt_t, c_lt_f, c_eq_f, c_eqm, bi_z, bi_1, bi_b, bi_T, bi_F, ite_not, up_eq, up_ne, or_self, or_true, true_or, or_false, false_or, and_true, true_and, and_self, not_true_eq_false, not_false_eq_true, Bool.false_eq_true]
