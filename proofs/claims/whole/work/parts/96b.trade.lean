/-! trades on both sides -/
def kpN (W : Nat → Int32) (c : Nat) : Nat := (W (43 + 9 * c + 5)).toNatClampNeg
def gdK (W : Nat → Int32) (v : Nat → Nat) (c o : Nat) : Nat := gdN W v c o (kpN W o)
/-- those of a mask are children who keep something -/
def subK (W : Nat → Int32) (N m : Nat) : Prop := m < 256 ∧ ∀ x, m.testBit x = true → x < N ∧ kpN W x < 8 ∧ W (43 + 9 * x + 5) = (Int32.ofNat (kpN W x))
def vOK (W : Nat → Int32) (v : Nat → Nat) : Prop := ∀ t, t < 9 → v t ≤ 99 ∧ W (7 + 4 * t + 3) = (Int32.ofNat (v t))
theorem andn_at {m C : Nat} (hm : m < 256) (hC : C < 256) : ∃ m', m' < 256 ∧ (Int32.ofNat m) &&& ((Int32.ofNat C) ^^^ -1) = (Int32.ofNat m') ∧ ∀ x, m'.testBit x = (m.testBit x && !C.testBit x) := by
  have e : (Int32.ofNat m) &&& ((Int32.ofNat C) ^^^ -1) = bset (fun x => m.testBit x && !C.testBit x) 8 := by
    apply tb_ext
    intro c hc
    rw [tb_and, tb_not _ hc, tb_ofNat hc, tb_ofNat hc, tb_bset _ (by omega) hc]
    by_cases h8 : c < 8
    · rw [decide_eq_true h8, Bool.true_and]
    · have h2 : 2 ^ 8 ≤ 2 ^ c := Nat.pow_le_pow_right (by omega) (by omega)
      rw [Nat.testBit_lt_two_pow (x := m) (i := c) (Nat.lt_of_lt_of_le hm h2), decide_eq_false h8]
      rfl
  have hlt := bsN_lt (fun x => m.testBit x && !C.testBit x) 8
  refine ⟨bsN (fun x => m.testBit x && !C.testBit x) 8, hlt, by rw [e]; exact (bset_N _ (by omega)).1, fun x => ?_⟩
  by_cases h8 : x < 8
  · rw [← tb_ofNat (by omega), ← (bset_N (fun x => m.testBit x && !C.testBit x) (N := 8) (by omega)).1, tb_bset _ (by omega) (by omega), decide_eq_true h8, Bool.true_and]
  · have h2 : 2 ^ 8 ≤ 2 ^ x := Nat.pow_le_pow_right (by omega) (by omega)
    rw [Nat.testBit_lt_two_pow (x := bsN (fun x => m.testBit x && !C.testBit x) 8) (Nat.lt_of_lt_of_le hlt h2), Nat.testBit_lt_two_pow (x := m) (i := x) (Nat.lt_of_lt_of_le hm h2)]
    rfl
theorem gN_or {m o : Nat} (ho : o < 8) (h : m.testBit o = false) : gN (fun _ => 1) (m ||| 2 ^ o) = gN (fun _ => 1) m + 1 := by
  have : gN (fun _ => 1) (m ||| 2 ^ o) = nsum (fun c => (if m.testBit c = true then 1 else 0) + (if c = o then 1 else 0)) 8 := nsum_congr (fun c hc => by
    show (if (m ||| 2 ^ o).testBit c = true then 1 else 0) = _
    rw [or_bit]
    by_cases q : c = o
    · subst q; rw [h]; simp
    · rw [decide_eq_false (fun z => q z.symm), Bool.or_false, if_neg q]; omega)
  rw [this, nsum_add, nsum_one (t := o) ho (fun i _ hne => if_neg hne), if_pos rfl]
  rfl
theorem gdK_le {W : Nat → Int32} {N m c o : Nat} {v : Nat → Nat} (S : subK W N m) (V : vOK W v) (ho : m.testBit o = true) : gdK W v c o ≤ 999 := gd_le (V _ (by have := (S.2 o ho).2.1; omega)).1
theorem rR_pointOf {h : am_H} {N m c : Nat} {v : Nat → Nat} (hN : N ≤ 8) (e0 : h.2 374 0 = (Int32.ofNat N)) (S : subK (h.2 374) N m) (V : vOK (h.2 374) v) (hc : m.testBit c = true) (d : Nat) : am_cl (d + 4) qR_pointOf [.ref 373, .int (Int32.ofNat c), .int (Int32.ofNat m)] h = some (.inl (some ((Int32.ofNat (PT (gdK (h.2 374) v) N m.testBit c)))), h) := by
  have cN := (S.2 c hc).1
  have l : ∀ k o b, o + k = N → m.testBit b = true → am_go (am_cl (d + 3)) qR_pointOf 1 [.ref 373, .int (Int32.ofNat c), .int (Int32.ofNat m), .int (Int32.ofNat b), .int (Int32.ofNat o)] [] h = some (.inl (some ((Int32.ofNat (itr (fun o b => if (m.testBit o && decide (gdK (h.2 374) v c b < gdK (h.2 374) v c o)) = true then o else b) k o b)))), h) := by
    intro k
    induction k with
    | zero =>
      intro o b ho hb
      rw [ggR_pointOf_1]
      simp -implicitDefEqProofs (disch := (first | omega | assumption | exact am_isS_3 | exact am_isS_25 | exact am_isX_356 | exact am_isX_359)) only [ggR_pointOf_0, ggR_pointOf_2, ggR_pointOf_3, ggR_pointOf_4, ggR_pointOf_5, ggR_pointOf_6, ccR_pointOf_1_1, ccR_pointOf_2_1, ccR_pointOf_3_2, ccR_pointOf_3_1, rR_children, e0, itr, am_kI_x, am_kV_x, am_kI_i, am_nI_i, am_kV_i, am_nV_i, ↓reduceIte, eq_self, if_true, if_false, c_in, c_tn, pn_add, pn_mul, pn_subc, pn_addm, c_le_t, c_le_f, c_lt_t, c_lt_f, c_eq_f, c_eqm, bi_z, bi_1, bi_b, bi_T, bi_F, ite_not, up_eq, up_ne, or_self, or_true, true_or, or_false, false_or, and_true, true_and, and_self, not_true_eq_false, not_false_eq_true, Bool.false_eq_true]
    | succ k ih =>
      intro o b ho hb
      obtain ⟨b1, b2, b3⟩ := S.2 b hb
      have hm := has_m (m := m) (c := o) (by omega)
      have gb := fun d => rR_gladOf V (c := c) (o := b) (by omega) (by omega) b2 b3 d
      have lb := gdK_le (c := c) S V hb
      show _ = (some (.inl (some ((Int32.ofNat (itr _ k (o + 1) (if (m.testBit o && decide (gdK (h.2 374) v c b < gdK (h.2 374) v c o)) = true then o else b))))), h) : Option am_R)
      by_cases h1 : m.testBit o = true
      · obtain ⟨o1, o2, o3⟩ := S.2 o h1
        have go := fun d => rR_gladOf V (c := c) (o := o) (by omega) (by omega) o2 o3 d
        have lo := gdK_le (c := c) S V h1
        unfold gdK at lb lo
        by_cases h2 : gdK (h.2 374) v c b < gdK (h.2 374) v c o
        · have ih := ih (o + 1) o (by omega) h1
          rw [if_pos (by rw [h1, decide_eq_true h2]; rfl), ← ih, ggR_pointOf_1]
          unfold gdK at h2
          simp -implicitDefEqProofs (disch := (first | omega | assumption | exact am_isS_3 | exact am_isS_25 | exact am_isX_356 | exact am_isX_359)) only [ggR_pointOf_0, ggR_pointOf_2, ggR_pointOf_3, ggR_pointOf_4, ggR_pointOf_5, ggR_pointOf_6, ccR_pointOf_1_1, ccR_pointOf_2_1, ccR_pointOf_3_2, ccR_pointOf_3_1, rR_children, e0, rR_has, hm, h1, go, gb, am_kI_x, am_kV_x, am_kI_i, am_nI_i, am_kV_i, am_nV_i, ↓reduceIte, eq_self, if_true, if_false, c_in, c_tn, pn_add, pn_mul, pn_subc, pn_addm, c_le_t, c_le_f, c_lt_t, c_lt_f, c_eq_f, c_eqm, bi_z, bi_1, bi_b, bi_T, bi_F, ite_not, up_eq, up_ne, or_self, or_true, true_or, or_false, false_or, and_true, true_and, and_self, not_true_eq_false, not_false_eq_true, Bool.false_eq_true]
        · have ih := ih (o + 1) b (by omega) hb
          rw [if_neg (by rw [decide_eq_false h2, Bool.and_false]; decide), ← ih, ggR_pointOf_1]
          unfold gdK at h2
          simp -implicitDefEqProofs (disch := (first | omega | assumption | exact am_isS_3 | exact am_isS_25 | exact am_isX_356 | exact am_isX_359)) only [ggR_pointOf_0, ggR_pointOf_2, ggR_pointOf_3, ggR_pointOf_4, ggR_pointOf_5, ggR_pointOf_6, ccR_pointOf_1_1, ccR_pointOf_2_1, ccR_pointOf_3_2, ccR_pointOf_3_1, rR_children, e0, rR_has, hm, h1, go, gb, am_kI_x, am_kV_x, am_kI_i, am_nI_i, am_kV_i, am_nV_i, ↓reduceIte, eq_self, if_true, if_false, c_in, c_tn, pn_add, pn_mul, pn_subc, pn_addm, c_le_t, c_le_f, c_lt_t, c_lt_f, c_eq_f, c_eqm, bi_z, bi_1, bi_b, bi_T, bi_F, ite_not, up_eq, up_ne, or_self, or_true, true_or, or_false, false_or, and_true, true_and, and_self, not_true_eq_false, not_false_eq_true, Bool.false_eq_true]
      · have ih := ih (o + 1) b (by omega) hb
        rw [if_neg (by rw [Bool.eq_false_iff.mpr h1, Bool.false_and]; decide), ← ih, ggR_pointOf_1]
        simp -implicitDefEqProofs (disch := (first | omega | assumption | exact am_isS_3 | exact am_isS_25 | exact am_isX_356 | exact am_isX_359)) only [ggR_pointOf_0, ggR_pointOf_2, ggR_pointOf_3, ggR_pointOf_4, ggR_pointOf_5, ggR_pointOf_6, ccR_pointOf_1_1, ccR_pointOf_2_1, ccR_pointOf_3_2, ccR_pointOf_3_1, rR_children, e0, rR_has, hm, h1, am_kI_x, am_kV_x, am_kI_i, am_nI_i, am_kV_i, am_nV_i, ↓reduceIte, eq_self, if_true, if_false, c_in, c_tn, pn_add, pn_mul, pn_subc, pn_addm, c_le_t, c_le_f, c_lt_t, c_lt_f, c_eq_f, c_eqm, bi_z, bi_1, bi_b, bi_T, bi_F, ite_not, up_eq, up_ne, or_self, or_true, true_or, or_false, false_or, and_true, true_and, and_self, not_true_eq_false, not_false_eq_true, Bool.false_eq_true]
  rw [uR_pointOf, ggR_pointOf_0]
  exact l N 0 c (by omega) hc
theorem zb_m {m c : Nat} (hc : c < 32) : (((Int32.ofNat m) >>> ((Int32.ofNat c) &&& (Int32.ofNat 31))) &&& (Int32.ofNat 1) = (Int32.ofNat 0)) = ¬ (m.testBit c = true) := by
  rw [zb_iff hc, tb_ofNat hc]
  apply propext
  cases m.testBit c <;> simp
theorem xM_rathest {h : am_H} {W : Nat → Int32} {N G m c : Nat} {v : Nat → Nat} (R : RelS h 3 W N G) (S : subK W N m) (V : vOK W v) (hc : m.testBit c = true) (d : Nat) : am_cl (d + 3) qM_rathest [.ref 3, .int (Int32.ofNat c), .int (Int32.ofNat m)] h = some (.inl (some ((Int32.ofNat (PT (gdK W v) N m.testBit c)))), h) := by
  have hN := R.1
  have r4 := R.2.2.2.1
  have cN := (S.2 c hc).1
  have l : ∀ k o b, o + k = N → m.testBit b = true → am_go (am_cl (d + 2)) qM_rathest 1 [.ref 3, .int (Int32.ofNat c), .int (Int32.ofNat m), .int (Int32.ofNat b), .int (Int32.ofNat o)] [] h = some (.inl (some ((Int32.ofNat (itr (fun o b => if (m.testBit o && decide (gdK W v c b < gdK W v c o)) = true then o else b) k o b)))), h) := by
    intro k
    induction k with
    | zero =>
      intro o b ho hb
      rw [ggM_rathest_1]
      simp -implicitDefEqProofs (disch := (first | omega | assumption | exact am_isS_3 | exact am_isS_25 | exact am_isX_356 | exact am_isX_359)) only [ggM_rathest_0, ggM_rathest_2, ggM_rathest_3, ggM_rathest_4, ggM_rathest_5, ggM_rathest_6, ccM_rathest_3_2, ccM_rathest_3_1, r4, itr, am_kI_x, am_kV_x, am_kI_i, am_nI_i, am_kV_i, am_nV_i, ↓reduceIte, eq_self, if_true, if_false, c_in, c_tn, pn_add, pn_mul, pn_subc, pn_addm, c_le_t, c_le_f, c_lt_t, c_lt_f, c_eq_f, c_eqm, bi_z, bi_1, bi_b, bi_T, bi_F, ite_not, up_eq, up_ne, or_self, or_true, true_or, or_false, false_or, and_true, true_and, and_self, not_true_eq_false, not_false_eq_true, Bool.false_eq_true]
    | succ k ih =>
      intro o b ho hb
      obtain ⟨b1, b2, b3⟩ := S.2 b hb
      have hm := zb_m (m := m) (c := o) (by omega)
      have gb := fun d => xM_likes R V (c := c) (o := b) (by omega) (by omega) b2 b3 d
      have lb := lk_le (W := W) (v := v) (c := c) (o := b) (V (kpN W b) (by omega)).1
      show _ = (some (.inl (some ((Int32.ofNat (itr _ k (o + 1) (if (m.testBit o && decide (gdK W v c b < gdK W v c o)) = true then o else b))))), h) : Option am_R)
      by_cases h1 : m.testBit o = true
      · obtain ⟨o1, o2, o3⟩ := S.2 o h1
        have go := fun d => xM_likes R V (c := c) (o := o) (by omega) (by omega) o2 o3 d
        have lo := lk_le (W := W) (v := v) (c := c) (o := o) (V (kpN W o) (by omega)).1
        have iff := lk_gd (W := W) (v := v) (c := c) (o := o) (k := kpN W o) (o' := b) (k' := kpN W b) (V (kpN W o) (by omega)).1 (V (kpN W b) (by omega)).1
        by_cases h2 : gdK W v c b < gdK W v c o
        · have ih := ih (o + 1) o (by omega) h1
          have h3 : lkN W v c b (kpN W b) < lkN W v c o (kpN W o) := by unfold gdK at h2; omega
          rw [if_pos (by rw [h1, decide_eq_true h2]; rfl), ← ih, ggM_rathest_1]
          simp -implicitDefEqProofs (disch := (first | omega | assumption | exact am_isS_3 | exact am_isS_25 | exact am_isX_356 | exact am_isX_359)) only [ggM_rathest_0, ggM_rathest_2, ggM_rathest_3, ggM_rathest_4, ggM_rathest_5, ggM_rathest_6, ccM_rathest_3_2, ccM_rathest_3_1, r4, hm, h1, go, gb, am_kI_x, am_kV_x, am_kI_i, am_nI_i, am_kV_i, am_nV_i, ↓reduceIte, eq_self, if_true, if_false, c_in, c_tn, pn_add, pn_mul, pn_subc, pn_addm, c_le_t, c_le_f, c_lt_t, c_lt_f, c_eq_f, c_eqm, bi_z, bi_1, bi_b, bi_T, bi_F, ite_not, up_eq, up_ne, or_self, or_true, true_or, or_false, false_or, and_true, true_and, and_self, not_true_eq_false, not_false_eq_true, Bool.false_eq_true]
        · have ih := ih (o + 1) b (by omega) hb
          have h3 : lkN W v c o (kpN W o) ≤ lkN W v c b (kpN W b) := by unfold gdK at h2; omega
          rw [if_neg (by rw [decide_eq_false h2, Bool.and_false]; decide), ← ih, ggM_rathest_1]
          simp -implicitDefEqProofs (disch := (first | omega | assumption | exact am_isS_3 | exact am_isS_25 | exact am_isX_356 | exact am_isX_359)) only [ggM_rathest_0, ggM_rathest_2, ggM_rathest_3, ggM_rathest_4, ggM_rathest_5, ggM_rathest_6, ccM_rathest_3_2, ccM_rathest_3_1, r4, hm, h1, go, gb, am_kI_x, am_kV_x, am_kI_i, am_nI_i, am_kV_i, am_nV_i, ↓reduceIte, eq_self, if_true, if_false, c_in, c_tn, pn_add, pn_mul, pn_subc, pn_addm, c_le_t, c_le_f, c_lt_t, c_lt_f, c_eq_f, c_eqm, bi_z, bi_1, bi_b, bi_T, bi_F, ite_not, up_eq, up_ne, or_self, or_true, true_or, or_false, false_or, and_true, true_and, and_self, not_true_eq_false, not_false_eq_true, Bool.false_eq_true]
      · have ih := ih (o + 1) b (by omega) hb
        rw [if_neg (by rw [Bool.eq_false_iff.mpr h1, Bool.false_and]; decide), ← ih, ggM_rathest_1]
        simp -implicitDefEqProofs (disch := (first | omega | assumption | exact am_isS_3 | exact am_isS_25 | exact am_isX_356 | exact am_isX_359)) only [ggM_rathest_0, ggM_rathest_2, ggM_rathest_3, ggM_rathest_4, ggM_rathest_5, ggM_rathest_6, ccM_rathest_3_2, ccM_rathest_3_1, r4, hm, h1, am_kI_x, am_kV_x, am_kI_i, am_nI_i, am_kV_i, am_nV_i, ↓reduceIte, eq_self, if_true, if_false, c_in, c_tn, pn_add, pn_mul, pn_subc, pn_addm, c_le_t, c_le_f, c_lt_t, c_lt_f, c_eq_f, c_eqm, bi_z, bi_1, bi_b, bi_T, bi_F, ite_not, up_eq, up_ne, or_self, or_true, true_or, or_false, false_or, and_true, true_and, and_self, not_true_eq_false, not_false_eq_true, Bool.false_eq_true]
  rw [uM_rathest, ggM_rathest_0]
  exact l N 0 c (by omega) hc
theorem orb_per {f : Nat → Nat} {a p : Nat} (h : per f a p) (x : Nat) : orb f a x ↔ ∃ i, i < p ∧ it f i a = x := by
  obtain ⟨p1, p2, p3⟩ := h
  constructor
  · rintro ⟨n, e⟩
    refine ⟨n % p, Nat.mod_lt _ (by omega), ?_⟩
    rw [← e]
    have : n = n % p + n / p * p := by rw [Nat.mul_comm]; exact (Nat.mod_add_div n p).symm
    rw [this, it_add, it_mul p2, ← this]
  · rintro ⟨i, _, e⟩
    exact ⟨i, e⟩
theorem rR_ringFrom {h : am_H} {N m c : Nat} {v : Nat → Nat} (hN : N ≤ 8) (e0 : h.2 374 0 = (Int32.ofNat N)) (S : subK (h.2 374) N m) (V : vOK (h.2 374) v) (hc : m.testBit c = true) (d : Nat) : ∃ a C, C < 256 ∧ am_cl (d + 5) qR_ringFrom [.ref 373, .int (Int32.ofNat c), .int (Int32.ofNat m)] h = some (.inl (some ((Int32.ofNat C))), h) ∧ Cyc (gdK (h.2 374) v) N m.testBit a C.testBit ∧ per (PT (gdK (h.2 374) v) N m.testBit) a (gN (fun _ => 1) C) := by
  have hin := fun a (ha : m.testBit a = true) n => it_in (g := gdK (h.2 374) v) (N := N) (L := m.testBit) ha n
  have pR := fun x (hx : m.testBit x = true) d => rR_pointOf hN e0 S V hx d
  generalize hf : PT (gdK (h.2 374) v) N m.testBit = f at pR hin
  have hlt : ∀ n, it f n c < 8 := fun n => by have := (S.2 _ (hin c hc n)).1; omega
  obtain ⟨q, q1, q2, q3⟩ := ring_ex hlt
  obtain ⟨p, p1, p2⟩ := per_ex q q (Nat.le_refl _) q1 q3
  have La := hin c hc 8
  have l1 : ∀ k j, j + k = 8 → am_go (am_cl (d + 4)) qR_ringFrom 1 [.ref 373, .int (Int32.ofNat c), .int (Int32.ofNat m), .int (Int32.ofNat (it f j c)), .int (Int32.ofNat j)] [] h = am_go (am_cl (d + 4)) qR_ringFrom 4 [.ref 373, .int (Int32.ofNat c), .int (Int32.ofNat m), .int (Int32.ofNat (it f 8 c)), .int (Int32.ofNat 0)] [] h := by
    intro k
    induction k with
    | zero =>
      intro j hj
      have hj : j = 8 := by omega
      subst hj
      rw [ggR_ringFrom_1]
      simp -implicitDefEqProofs (disch := (first | omega | assumption | exact am_isS_3 | exact am_isS_25 | exact am_isX_356 | exact am_isX_359)) only [ggR_ringFrom_0, ggR_ringFrom_2, ggR_ringFrom_3, ggR_ringFrom_5, ggR_ringFrom_6, ccR_ringFrom_2_1, ccR_ringFrom_4_1, ccR_ringFrom_5_1, am_kI_x, am_kV_x, am_kI_i, am_nI_i, am_kV_i, am_nV_i, ↓reduceIte, eq_self, if_true, if_false, c_in, c_tn, pn_add, pn_mul, pn_subc, pn_addm, c_le_t, c_le_f, c_lt_t, c_lt_f, c_eq_f, c_eqm, bi_z, bi_1, bi_b, bi_T, bi_F, ite_not, up_eq, up_ne, or_self, or_true, true_or, or_false, false_or, and_true, true_and, and_self, not_true_eq_false, not_false_eq_true, Bool.false_eq_true]
    | succ k ih =>
      intro j hj
      have ih := ih (j + 1) (by omega)
      have pj := fun d => pR _ (hin c hc j) d
      rw [it_S] at ih
      rw [ggR_ringFrom_1]
      simp -implicitDefEqProofs (disch := (first | omega | assumption | exact am_isS_3 | exact am_isS_25 | exact am_isX_356 | exact am_isX_359)) only [ggR_ringFrom_0, ggR_ringFrom_2, ggR_ringFrom_3, ggR_ringFrom_5, ggR_ringFrom_6, ccR_ringFrom_2_1, ccR_ringFrom_4_1, ccR_ringFrom_5_1, pj, am_kI_x, am_kV_x, am_kI_i, am_nI_i, am_kV_i, am_nV_i, ↓reduceIte, eq_self, if_true, if_false, c_in, c_tn, pn_add, pn_mul, pn_subc, pn_addm, c_le_t, c_le_f, c_lt_t, c_lt_f, c_eq_f, c_eqm, bi_z, bi_1, bi_b, bi_T, bi_F, ite_not, up_eq, up_ne, or_self, or_true, true_or, or_false, false_or, and_true, true_and, and_self, not_true_eq_false, not_false_eq_true, Bool.false_eq_true]
      exact ih
  generalize it f 8 c = a at *
  have l2 : ∀ k j B, j + k = p → B < 256 → (∀ x, B.testBit x = true ↔ ∃ i, i < j ∧ it f i a = x) → gN (fun _ => 1) B = j → ∃ C, C < 256 ∧ am_go (am_cl (d + 4)) qR_ringFrom 4 [.ref 373, .int (Int32.ofNat c), .int (Int32.ofNat m), .int (Int32.ofNat (it f j a)), .int (Int32.ofNat B)] [] h = some (.inl (some ((Int32.ofNat C))), h) ∧ (∀ x, C.testBit x = true ↔ ∃ i, i < p ∧ it f i a = x) ∧ gN (fun _ => 1) C = p := by
    intro k
    induction k with
    | zero =>
      intro j B hj hB hx hg
      have hj : j = p := by omega
      subst hj
      refine ⟨B, hB, ?_, hx, hg⟩
      have ha8 := (S.2 a La).1
      have hb : B.testBit a = true := (hx a).mpr ⟨0, p2.1, rfl⟩
      have hm := has_m (m := B) (c := a) (by omega)
      rw [p2.2.1, ggR_ringFrom_4]
      simp -implicitDefEqProofs (disch := (first | omega | assumption | exact am_isS_3 | exact am_isS_25 | exact am_isX_356 | exact am_isX_359)) only [ggR_ringFrom_0, ggR_ringFrom_2, ggR_ringFrom_3, ggR_ringFrom_5, ggR_ringFrom_6, ccR_ringFrom_2_1, ccR_ringFrom_4_1, ccR_ringFrom_5_1, rR_has, hm, hb, am_kI_x, am_kV_x, am_kI_i, am_nI_i, am_kV_i, am_nV_i, ↓reduceIte, eq_self, if_true, if_false, c_in, c_tn, pn_add, pn_mul, pn_subc, pn_addm, c_le_t, c_le_f, c_lt_t, c_lt_f, c_eq_f, c_eqm, bi_z, bi_1, bi_b, bi_T, bi_F, ite_not, up_eq, up_ne, or_self, or_true, true_or, or_false, false_or, and_true, true_and, and_self, not_true_eq_false, not_false_eq_true, Bool.false_eq_true]
    | succ k ih =>
      intro j B hj hB hx hg
      have ha8 := (S.2 _ (hin a La j)).1
      have hb : ¬ B.testBit (it f j a) = true := fun z => by
        obtain ⟨i, i1, i2⟩ := (hx _).mp z
        exact per_inj p2 i1 (by omega) i2
      have hbf := Bool.eq_false_iff.mpr hb
      have hm := has_m (m := B) (c := it f j a) (by omega)
      obtain ⟨o1, o2⟩ := ob_at hB (o := it f j a) (by omega)
      have pj := fun d => pR _ (hin a La j) d
      obtain ⟨C, C1, C2, C3, C4⟩ := ih (j + 1) (B ||| 2 ^ it f j a) (by omega) o2 (fun x => by
        rw [or_bit, Bool.or_eq_true, decide_eq_true_eq, hx x]
        constructor
        · rintro (⟨i, i1, i2⟩ | e)
          · exact ⟨i, by omega, i2⟩
          · exact ⟨j, by omega, e⟩
        · rintro ⟨i, i1, i2⟩
          by_cases z : i = j
          · exact Or.inr (by rw [← z]; exact i2)
          · exact Or.inl ⟨i, by omega, i2⟩) (by rw [gN_or (by omega) hbf, hg])
      refine ⟨C, C1, ?_, C3, C4⟩
      rw [it_S] at C2
      rw [ggR_ringFrom_4]
      simp -implicitDefEqProofs (disch := (first | omega | assumption | exact am_isS_3 | exact am_isS_25 | exact am_isX_356 | exact am_isX_359)) only [ggR_ringFrom_0, ggR_ringFrom_2, ggR_ringFrom_3, ggR_ringFrom_5, ggR_ringFrom_6, ccR_ringFrom_2_1, ccR_ringFrom_4_1, ccR_ringFrom_5_1, rR_has, hm, hb, pj, o1, am_kI_x, am_kV_x, am_kI_i, am_nI_i, am_kV_i, am_nV_i, ↓reduceIte, eq_self, if_true, if_false, c_in, c_tn, pn_add, pn_mul, pn_subc, pn_addm, c_le_t, c_le_f, c_lt_t, c_lt_f, c_eq_f, c_eqm, bi_z, bi_1, bi_b, bi_T, bi_F, ite_not, up_eq, up_ne, or_self, or_true, true_or, or_false, false_or, and_true, true_and, and_self, not_true_eq_false, not_false_eq_true, Bool.false_eq_true]
      exact C2
  obtain ⟨C, C1, C2, C3, C4⟩ := l2 p 0 0 (by omega) (by omega) (fun x => by rw [Nat.zero_testBit]; exact ⟨fun z => absurd z (by decide), fun ⟨i, i1, _⟩ => by omega⟩) (by decide)
  refine ⟨a, C, C1, ?_, ⟨La, ⟨p, p2.1, by rw [hf]; exact p2.2.1⟩, fun x => by rw [hf, C3 x, orb_per p2 x]⟩, by rw [C4]; exact p2⟩
  rw [uR_ringFrom, ggR_ringFrom_0]
  exact (l1 8 0 (by omega)).trans C2
theorem trades_9 {W : Nat → Int32} {N m C : Nat} {v : Nat → Nat} (hN : N ≤ 8) (e0 : W 0 = (Int32.ofNat N)) (S : subK W N m) (V : vOK W v) (hC : C < 256) (hs : ∀ x, C.testBit x = true → m.testBit x = true) (d : Nat) : ∀ k c (h : am_H), c + k = N → h.2 374 = W → ∃ h', am_go (am_cl (d + 5)) qR_trades 9 [.ref 373, .int (Int32.ofNat m), .int (Int32.ofNat C), .int (Int32.ofNat c)] [] h = am_go (am_cl (d + 5)) qR_trades 14 [.ref 373, .int (Int32.ofNat m), .int (Int32.ofNat C), .int (Int32.ofNat N)] [] h' ∧ h'.1 = h.1 ∧ (∀ x, c ≤ x → C.testBit x = true → h'.2 386 x = (Int32.ofNat (PT (gdK W v) N m.testBit x)) ∧ h'.2 387 x = (Int32.ofNat (gN (fun _ => 1) C))) ∧ ∀ p i, (p ≠ 386 ∧ p ≠ 387 ∨ i < c ∨ ¬ C.testBit i = true) → h'.2 p i = h.2 p i := by
  intro k
  induction k with
  | zero =>
    intro c h hc eW
    have hc : c = N := by omega
    subst hc
    have e0 : h.2 374 0 = (Int32.ofNat c) := by rw [eW]; exact e0
    refine ⟨h, ?_, rfl, fun x h1 h2 => by have := (S.2 x (hs x h2)).1; omega, fun _ _ _ => rfl⟩
    rw [ggR_trades_9]
    simp -implicitDefEqProofs (disch := (first | omega | assumption | exact am_isS_3 | exact am_isS_25 | exact am_isX_356 | exact am_isX_359)) only [ggR_trades_0, ggR_trades_2, ggR_trades_3, ggR_trades_4, ggR_trades_5, ggR_trades_6, ggR_trades_8, ggR_trades_10, ggR_trades_11, ggR_trades_12, ggR_trades_13, ggR_trades_15, ccR_trades_2_1, ccR_trades_3_1, ccR_trades_8_2, ccR_trades_8_1, ccR_trades_9_1, ccR_trades_10_1, ccR_trades_12_2, ccR_trades_12_1, rR_children, e0, am_kI_x, am_kV_x, am_kI_i, am_nI_i, am_kV_i, am_nV_i, ↓reduceIte, eq_self, if_true, if_false, c_in, c_tn, pn_add, pn_mul, pn_subc, pn_addm, c_le_t, c_le_f, c_lt_t, c_lt_f, c_eq_f, c_eqm, bi_z, bi_1, bi_b, bi_T, bi_F, ite_not, up_eq, up_ne, or_self, or_true, true_or, or_false, false_or, and_true, true_and, and_self, not_true_eq_false, not_false_eq_true, Bool.false_eq_true]
  | succ k ih =>
    intro c h hc eW
    have e0' : h.2 374 0 = (Int32.ofNat N) := by rw [eW]; exact e0
    have hm := has_m (m := C) (c := c) (by omega)
    by_cases h1 : C.testBit c = true
    · have pj := fun d => rR_pointOf (h := h) hN e0' (by rw [eW]; exact S) (by rw [eW]; exact V) (hs c h1) d
      rw [eW] at pj
      have bc := (gN_at hC).1
      obtain ⟨h', a, b, e, f⟩ := ih (c + 1) (am_up (am_up h 386 c (Int32.ofNat (PT (gdK W v) N m.testBit c))) 387 c (Int32.ofNat (gN (fun _ => 1) C))) (by omega) (by rw [up_o (by omega), up_o (by omega)]; exact eW)
      refine ⟨h', ?_, b, fun x h2 h3 => ?_, fun p i hp => ?_⟩
      · rw [ggR_trades_9]
        simp -implicitDefEqProofs (disch := (first | omega | assumption | exact am_isS_3 | exact am_isS_25 | exact am_isX_356 | exact am_isX_359)) only [ggR_trades_0, ggR_trades_2, ggR_trades_3, ggR_trades_4, ggR_trades_5, ggR_trades_6, ggR_trades_8, ggR_trades_10, ggR_trades_11, ggR_trades_12, ggR_trades_13, ggR_trades_15, ccR_trades_2_1, ccR_trades_3_1, ccR_trades_8_2, ccR_trades_8_1, ccR_trades_9_1, ccR_trades_10_1, ccR_trades_12_2, ccR_trades_12_1, rR_children, e0', rR_has, hm, h1, pj, rR_bc, bc, am_kI_x, am_kV_x, am_kI_i, am_nI_i, am_kV_i, am_nV_i, ↓reduceIte, eq_self, if_true, if_false, c_in, c_tn, pn_add, pn_mul, pn_subc, pn_addm, c_le_t, c_le_f, c_lt_t, c_lt_f, c_eq_f, c_eqm, bi_z, bi_1, bi_b, bi_T, bi_F, ite_not, up_eq, up_ne, or_self, or_true, true_or, or_false, false_or, and_true, true_and, and_self, not_true_eq_false, not_false_eq_true, Bool.false_eq_true]
        exact a
      · by_cases z : x = c
        · subst z
          rw [f 386 x (by omega), f 387 x (by omega), up_ne (by omega), up_eq rfl rfl, up_eq rfl rfl]
          exact ⟨rfl, rfl⟩
        · exact e x (by omega) h3
      · have hi : (p ≠ 386 ∧ p ≠ 387) ∨ i ≠ c := by
          rcases hp with q | q | q
          · exact Or.inl q
          · exact Or.inr (by omega)
          · exact Or.inr (fun z => q (by rw [z]; exact h1))
        rw [f p i (hp.imp id (Or.imp (fun q => Nat.lt_succ_of_lt q) id)), up_ne (by omega), up_ne (by omega)]
    · obtain ⟨h', a, b, e, f⟩ := ih (c + 1) h (by omega) eW
      refine ⟨h', ?_, b, fun x h2 h3 => ?_, fun p i hp => ?_⟩
      · rw [ggR_trades_9]
        simp -implicitDefEqProofs (disch := (first | omega | assumption | exact am_isS_3 | exact am_isS_25 | exact am_isX_356 | exact am_isX_359)) only [ggR_trades_0, ggR_trades_2, ggR_trades_3, ggR_trades_4, ggR_trades_5, ggR_trades_6, ggR_trades_8, ggR_trades_10, ggR_trades_11, ggR_trades_12, ggR_trades_13, ggR_trades_15, ccR_trades_2_1, ccR_trades_3_1, ccR_trades_8_2, ccR_trades_8_1, ccR_trades_9_1, ccR_trades_10_1, ccR_trades_12_2, ccR_trades_12_1, rR_children, e0', rR_has, hm, h1, am_kI_x, am_kV_x, am_kI_i, am_nI_i, am_kV_i, am_nV_i, ↓reduceIte, eq_self, if_true, if_false, c_in, c_tn, pn_add, pn_mul, pn_subc, pn_addm, c_le_t, c_le_f, c_lt_t, c_lt_f, c_eq_f, c_eqm, bi_z, bi_1, bi_b, bi_T, bi_F, ite_not, up_eq, up_ne, or_self, or_true, true_or, or_false, false_or, and_true, true_and, and_self, not_true_eq_false, not_false_eq_true, Bool.false_eq_true]
        exact a
      · by_cases z : x = c
        · rw [z] at h3; exact absurd h3 h1
        · exact e x (by omega) h3
      · by_cases z : i = c
        · exact f p i (Or.inr (Or.inr (by rw [z]; exact h1)))
        · exact f p i (hp.imp id (Or.imp (fun q => Nat.lt_succ_of_lt q) id))
theorem m_0 {m : Nat} (hm : m < 256) (h : ∀ x, ¬ m.testBit x = true) : m = 0 := by
  have := (gN_at hm).2
  rw [← this]
  exact nsum_z (fun i _ => if_neg (h i))
theorem m_bit {m : Nat} (hm : m < 256) (h0 : m ≠ 0) : ntzN 10 m < 8 ∧ m.testBit (ntzN 10 m) = true := by
  obtain ⟨a, b, c⟩ := lo_at hm h0
  rw [zb_m (by omega)] at c
  exact ⟨a, by
    cases hh : m.testBit (ntzN 10 m) with
    | true => rfl
    | false => exact absurd (by rw [hh]; decide) c⟩
theorem cnt_drop {L C : Nat → Bool} {a : Nat} (ha : a < 8) (hL : L a = true) (hC : C a = true) {n : Nat} (h : cnt L 8 ≤ n + 1) : cnt (fun x => L x && !C x) 8 ≤ n := by
  obtain ⟨c1, c2⟩ := cnt_mono (p := fun x => L x && !C x) (q := L) (N := 8) (fun c _ q => (sub_t.mp q).1)
  by_cases z : cnt (fun x => L x && !C x) 8 = cnt L 8
  · have := c2 z a ha
    rw [hL, hC] at this
    exact absurd this (by decide)
  · omega
theorem trades_7 {W : Nat → Int32} {N : Nat} {v : Nat → Nat} (hN : N ≤ 8) (e0 : W 0 = (Int32.ofNat N)) (V : vOK W v) (d : Nat) : ∀ n m (h : am_H) (x2 : Int32) (v3 : Value), subK W N m → cnt m.testBit 8 ≤ n → h.2 374 = W → ∃ h', am_go (am_cl (d + 5)) qR_trades 7 [.ref 373, .int (Int32.ofNat m), .int x2, v3] [] h = some (.inl none, h') ∧ h'.1 = h.1 ∧ Out (gdK W v) N n m.testBit (fun x => (h'.2 386 x).toNatClampNeg) (fun x => (h'.2 387 x).toNatClampNeg) ∧ (∀ x, m.testBit x = true → rg (h'.2 386 x) 100 ∧ rg (h'.2 387 x) 100) ∧ ∀ p i, (p ≠ 386 ∧ p ≠ 387 ∨ ¬ m.testBit i = true) → h'.2 p i = h.2 p i := by
  intro n
  induction n with
  | zero =>
    intro m h x2 v3 S hn eW
    have hz : ∀ x, ¬ m.testBit x = true := fun x hx => by
      have := cnt_set (p := fun _ => false) (q := fun y => decide (y = x)) (c := x) rfl (decide_eq_true rfl) (N := 8) (fun j _ hj => decide_eq_false hj) (by have := (S.2 x hx).1; omega)
      have h2 := (cnt_mono (p := fun y => decide (y = x)) (q := m.testBit) (N := 8) (fun c _ hc => by rw [of_decide_eq_true hc]; exact hx)).1
      omega
    have h0 := m_0 S.1 hz
    subst h0
    refine ⟨h, ?_, rfl, fun x => Bool.eq_false_iff.mpr (hz x), fun x hx => absurd hx (hz x), fun _ _ _ => rfl⟩
    rw [ggR_trades_7]
    simp -implicitDefEqProofs (disch := (first | omega | assumption | exact am_isS_3 | exact am_isS_25 | exact am_isX_356 | exact am_isX_359)) only [ggR_trades_0, ggR_trades_2, ggR_trades_3, ggR_trades_4, ggR_trades_5, ggR_trades_6, ggR_trades_8, ggR_trades_10, ggR_trades_11, ggR_trades_12, ggR_trades_13, ggR_trades_14, ggR_trades_15, ccR_trades_2_1, ccR_trades_3_1, ccR_trades_8_2, ccR_trades_8_1, ccR_trades_9_1, ccR_trades_10_1, ccR_trades_12_2, ccR_trades_12_1, am_kI_x, am_kV_x, am_kI_i, am_nI_i, am_kV_i, am_nV_i, ↓reduceIte, eq_self, if_true, if_false, c_in, c_tn, pn_add, pn_mul, pn_subc, pn_addm, c_le_t, c_le_f, c_lt_t, c_lt_f, c_eq_f, c_eqm, bi_z, bi_1, bi_b, bi_T, bi_F, ite_not, up_eq, up_ne, or_self, or_true, true_or, or_false, false_or, and_true, true_and, and_self, not_true_eq_false, not_false_eq_true, Bool.false_eq_true]
  | succ n ih =>
    intro m h x2 v3 S hn eW
    by_cases h0 : m = 0
    · subst h0
      have hz : ∀ x, ¬ (0 : Nat).testBit x = true := fun x => by rw [Nat.zero_testBit]; decide
      refine ⟨h, ?_, rfl, Or.inl (fun x => Bool.eq_false_iff.mpr (hz x)), fun x hx => absurd hx (hz x), fun _ _ _ => rfl⟩
      rw [ggR_trades_7]
      simp -implicitDefEqProofs (disch := (first | omega | assumption | exact am_isS_3 | exact am_isS_25 | exact am_isX_356 | exact am_isX_359)) only [ggR_trades_0, ggR_trades_2, ggR_trades_3, ggR_trades_4, ggR_trades_5, ggR_trades_6, ggR_trades_8, ggR_trades_10, ggR_trades_11, ggR_trades_12, ggR_trades_13, ggR_trades_14, ggR_trades_15, ccR_trades_2_1, ccR_trades_3_1, ccR_trades_8_2, ccR_trades_8_1, ccR_trades_9_1, ccR_trades_10_1, ccR_trades_12_2, ccR_trades_12_1, am_kI_x, am_kV_x, am_kI_i, am_nI_i, am_kV_i, am_nV_i, ↓reduceIte, eq_self, if_true, if_false, c_in, c_tn, pn_add, pn_mul, pn_subc, pn_addm, c_le_t, c_le_f, c_lt_t, c_lt_f, c_eq_f, c_eqm, bi_z, bi_1, bi_b, bi_T, bi_F, ite_not, up_eq, up_ne, or_self, or_true, true_or, or_false, false_or, and_true, true_and, and_self, not_true_eq_false, not_false_eq_true, Bool.false_eq_true]
    · have hm := S.1
      obtain ⟨n1, n2⟩ := m_bit hm h0
      have ez := ntz_eq (s := m) (by omega) h0
      obtain ⟨a, C, C1, C2, C3, C4⟩ := rR_ringFrom (h := h) hN (by rw [eW]; exact e0) (by rw [eW]; exact S) (by rw [eW]; exact V) n2 d
      rw [eW] at C3 C4
      have hs : ∀ x, C.testBit x = true → m.testBit x = true := fun x hx => Cyc_in C3 hx
      obtain ⟨h1, a1, a2, a3, a4⟩ := trades_9 (m := m) (C := C) hN e0 S V C1 hs d N 0 h (by omega) eW
      obtain ⟨m', b1, b2, b3⟩ := andn_at hm C1
      have em : m'.testBit = fun x => m.testBit x && !C.testBit x := funext b3
      have ca : C.testBit a = true := (C3.2.2 a).mpr orb_0
      obtain ⟨h', f1, f2, f3, f4, f5⟩ := ih m' h1 (Int32.ofNat C) (.int (Int32.ofNat N)) ⟨b1, fun x hx => S.2 x (by rw [b3 x] at hx; exact (sub_t.mp hx).1)⟩ (by rw [em]; exact cnt_drop (by have := (S.2 a C3.1).1; omega) C3.1 ca hn) (by rw [← eW]; funext i; exact a4 374 i (Or.inl ⟨by omega, by omega⟩))
      rw [em] at f3
      have ho : ∀ x, C.testBit x = true → h'.2 386 x = (Int32.ofNat (PT (gdK W v) N m.testBit x)) ∧ h'.2 387 x = (Int32.ofNat (gN (fun _ => 1) C)) := fun x hx => by
        have hnm : ¬ m'.testBit x = true := by rw [b3 x, hx]; simp
        rw [f5 386 x (Or.inr hnm), f5 387 x (Or.inr hnm)]
        exact a3 x (Nat.zero_le _) hx
      have hpt : ∀ x, C.testBit x = true → PT (gdK W v) N m.testBit x < 8 := fun x hx => by
        have := (S.2 _ (PT_spec (g := gdK W v) (N := N) (hs x hx)).1).1
        omega
      have hgl := gN_le (m := C)
      refine ⟨h', ?_, f2.trans a2, Or.inr ⟨a, C.testBit, C3, fun x hx => ?_, f3⟩, fun x hx => ?_, fun p i hp => ?_⟩
      · rw [ggR_trades_7]
        simp -implicitDefEqProofs (disch := (first | omega | assumption | exact am_isS_3 | exact am_isS_25 | exact am_isX_356 | exact am_isX_359)) only [ggR_trades_0, ggR_trades_2, ggR_trades_3, ggR_trades_4, ggR_trades_5, ggR_trades_6, ggR_trades_8, ggR_trades_10, ggR_trades_11, ggR_trades_12, ggR_trades_13, ggR_trades_15, ccR_trades_2_1, ccR_trades_3_1, ccR_trades_8_2, ccR_trades_8_1, ccR_trades_9_1, ccR_trades_10_1, ccR_trades_12_2, ccR_trades_12_1, rR_ntz, ez, C2, am_kI_x, am_kV_x, am_kI_i, am_nI_i, am_kV_i, am_nV_i, ↓reduceIte, eq_self, if_true, if_false, c_in, c_tn, pn_add, pn_mul, pn_subc, pn_addm, c_le_t, c_le_f, c_lt_t, c_lt_f, c_eq_f, c_eqm, bi_z, bi_1, bi_b, bi_T, bi_F, ite_not, up_eq, up_ne, or_self, or_true, true_or, or_false, false_or, and_true, true_and, and_self, not_true_eq_false, not_false_eq_true, Bool.false_eq_true]
        refine a1.trans ?_
        simp -implicitDefEqProofs (disch := (first | omega | assumption | exact am_isS_3 | exact am_isS_25 | exact am_isX_356 | exact am_isX_359)) only [ggR_trades_0, ggR_trades_2, ggR_trades_3, ggR_trades_4, ggR_trades_5, ggR_trades_6, ggR_trades_8, ggR_trades_10, ggR_trades_11, ggR_trades_12, ggR_trades_13, ggR_trades_14, ggR_trades_15, ccR_trades_2_1, ccR_trades_3_1, ccR_trades_8_2, ccR_trades_8_1, ccR_trades_9_1, ccR_trades_10_1, ccR_trades_12_2, ccR_trades_12_1, b2, am_kI_x, am_kV_x, am_kI_i, am_nI_i, am_kV_i, am_nV_i, ↓reduceIte, eq_self, if_true, if_false, c_in, c_tn, pn_add, pn_mul, pn_subc, pn_addm, c_le_t, c_le_f, c_lt_t, c_lt_f, c_eq_f, c_eqm, bi_z, bi_1, bi_b, bi_T, bi_F, ite_not, up_eq, up_ne, or_self, or_true, true_or, or_false, false_or, and_true, true_and, and_self, not_true_eq_false, not_false_eq_true, Bool.false_eq_true]
        exact f1
      · obtain ⟨o1, o2⟩ := ho x hx
        have := hpt x hx
        show (h'.2 386 x).toNatClampNeg = _ ∧ per _ x (h'.2 387 x).toNatClampNeg
        rw [o1, o2, c_tn (by omega), c_tn (by omega)]
        refine ⟨rfl, ?_⟩
        obtain ⟨i, e⟩ := (C3.2.2 x).mp hx
        rw [← e]
        exact per_orb C4 i
      · by_cases hC : C.testBit x = true
        · obtain ⟨o1, o2⟩ := ho x hC
          have := hpt x hC
          exact ⟨⟨_, by omega, o1⟩, ⟨_, by omega, o2⟩⟩
        · exact f4 x (by rw [b3 x]; exact sub_t.mpr ⟨hx, hC⟩)
      · have hnm : p ≠ 386 ∧ p ≠ 387 ∨ ¬ m'.testBit i = true := by
          rcases hp with q | q
          · exact Or.inl q
          · exact Or.inr (by rw [b3 i]; exact fun z => q (sub_t.mp z).1)
        rw [f5 p i hnm]
        refine a4 p i ?_
        rcases hp with q | q
        · exact Or.inl q
        · exact Or.inr (Or.inr (fun z => q (hs i z)))
