/-! the fewest children who keep all that is kept -/
def kt (W : Nat → Int32) (N c t : Nat) : Bool := decide (c < N) && decide (W (43 + 9 * c + 5) = (Int32.ofNat t))
theorem kt_iff {W : Nat → Int32} {N c t : Nat} : kt W N c t = true ↔ c < N ∧ W (43 + 9 * c + 5) = (Int32.ofNat t) := by
  unfold kt
  rw [Bool.and_eq_true, decide_eq_true_eq, decide_eq_true_eq]
theorem kt_one {W : Nat → Int32} {N c t t' : Nat} (ht : t < 8) (ht' : t' < 8) (h : kt W N c t = true) (h' : kt W N c t' = true) : t = t' := by
  have a := (kt_iff.mp h).2
  rw [(kt_iff.mp h').2] at a
  exact ((pn_eq (by omega) (by omega)).mp a).symm
def fsv (p : Nat → Bool) (g : Nat → Nat) : Nat → Nat
  | 0 => 0
  | n + 1 => if anyN p n = true then fsv p g n else if p n = true then g n else 0
theorem fsv_S {p : Nat → Bool} {g : Nat → Nat} {n : Nat} : fsv p g (n + 1) = if anyN p n = true then fsv p g n else if p n = true then g n else 0 := rfl
theorem fsv_0 {p : Nat → Bool} {g : Nat → Nat} : ∀ {n : Nat}, ¬ anyN p n = true → fsv p g n = 0 := by
  intro n
  induction n with
  | zero => intro _; rfl
  | succ n ih =>
    intro h
    have h1 : ¬ anyN p n = true := fun q => by
      obtain ⟨i, hi, hp⟩ := anyN_iff.mp q
      exact h (anyN_iff.mpr ⟨i, by omega, hp⟩)
    have h2 : ¬ p n = true := fun q => h (anyN_iff.mpr ⟨n, by omega, q⟩)
    rw [fsv_S, if_neg h1, if_neg h2]
theorem fsv_at {p : Nat → Bool} {g : Nat → Nat} : ∀ {n : Nat}, anyN p n = true → ∃ c, c < n ∧ p c = true ∧ (∀ c', c' < c → ¬ p c' = true) ∧ fsv p g n = g c := by
  intro n
  induction n with
  | zero => intro h; exact absurd h (by show ¬ false = true; decide)
  | succ n ih =>
    intro h
    rw [fsv_S]
    by_cases h1 : anyN p n = true
    · obtain ⟨c, a, b, e, f⟩ := ih h1
      rw [if_pos h1]
      exact ⟨c, by omega, b, e, f⟩
    · obtain ⟨i, hi, hp⟩ := anyN_iff.mp h
      have hin : i = n := by
        by_cases q : i = n
        · exact q
        · exact absurd (anyN_iff.mpr ⟨i, by omega, hp⟩) h1
      subst hin
      rw [if_neg h1, if_pos hp]
      exact ⟨i, by omega, hp, fun c' hc' q => h1 (anyN_iff.mpr ⟨c', hc', q⟩), rfl⟩
theorem fsv_le {p q : Nat → Bool} {g : Nat → Nat} (hg : ∀ a b, a ≤ b → g a ≤ g b) {n : Nat} (h : ∀ c, q c = true → p c = true) (ha : anyN p n = true → anyN q n = true) : fsv p g n ≤ fsv q g n := by
  by_cases hp : anyN p n = true
  · obtain ⟨c, c1, c2, c3, c4⟩ := fsv_at (g := g) hp
    obtain ⟨e, e1, e2, e3, e4⟩ := fsv_at (g := g) (ha hp)
    rw [c4, e4]
    apply hg
    by_cases hlt : e < c
    · exact absurd (h e e2) (c3 e hlt)
    · omega
  · rw [fsv_0 hp]; omega
theorem nsum_mono {f g : Nat → Nat} : ∀ {n : Nat}, (∀ i, i < n → f i ≤ g i) → nsum f n ≤ nsum g n := by
  intro n
  induction n with
  | zero => intro _; exact Nat.le_refl _
  | succ n ih =>
    intro h
    have := ih (fun i hi => h i (by omega))
    have := h n (by omega)
    rw [nsum_S, nsum_S]
    omega
theorem nsum_z {f : Nat → Nat} {n : Nat} (h : ∀ i, i < n → f i = 0) : nsum f n = 0 := (nsum_congr (g := fun _ => 0) h).trans (nsum_zero n)
/-- a set is worth at least what its first keepers of each thing are -/
theorem cover_le {W : Nat → Int32} {N : Nat} (s : Nat → Bool) (g : Nat → Nat) : ∀ n, nsum (fun t => fsv (fun c => s c && kt W N c t) g n) 8 ≤ nsum (fun c => if s c = true then g c else 0) n := by
  intro n
  induction n with
  | zero => exact Nat.le_of_eq (nsum_z (fun i _ => rfl))
  | succ n ih =>
    rw [nsum_S]
    have h1 : nsum (fun t => fsv (fun c => s c && kt W N c t) g (n + 1)) 8 ≤ nsum (fun t => fsv (fun c => s c && kt W N c t) g n + (if (s n && kt W N n t) = true then g n else 0)) 8 := nsum_mono (fun t _ => by
      rw [fsv_S]
      split <;> omega)
    rw [nsum_add] at h1
    have h2 : nsum (fun t => if (s n && kt W N n t) = true then g n else 0) 8 ≤ (if s n = true then g n else 0) := by
      by_cases hs : s n = true
      · rw [if_pos hs]
        by_cases hk : ∃ t, t < 8 ∧ kt W N n t = true
        · obtain ⟨t, ht, hk⟩ := hk
          rw [nsum_one ht (fun i hi hne => by
            have : ¬ kt W N n i = true := fun q => hne (kt_one hi ht q hk)
            rw [Bool.eq_false_iff.mpr this, Bool.and_false]
            rfl)]
          split <;> omega
        · rw [nsum_z (fun i hi => by
            have : ¬ kt W N n i = true := fun q => hk ⟨i, hi, q⟩
            show (if (s n && kt W N n i) = true then g n else 0) = 0
            rw [Bool.eq_false_iff.mpr this, Bool.and_false]
            rfl)]
          omega
      · rw [nsum_z (fun i hi => by
          show (if (s n && kt W N n i) = true then g n else 0) = 0
          rw [Bool.eq_false_iff.mpr hs, Bool.false_and]
          rfl)]
        omega
    exact Nat.le_trans h1 (Nat.add_le_add ih h2)
/-- a first keeper of what it keeps -/
def Lk1 (W : Nat → Int32) (N c : Nat) : Bool := anyN (fun t => kt W N c t && !anyN (fun c' => kt W N c' t) c) 8
theorem first_eq {W : Nat → Int32} {N : Nat} (g : Nat → Nat) : ∀ n, nsum (fun c => if Lk1 W N c = true then g c else 0) n = nsum (fun t => fsv (fun c => kt W N c t) g n) 8 := by
  intro n
  induction n with
  | zero => exact (nsum_z (fun i _ => rfl)).symm
  | succ n ih =>
    have h1 : nsum (fun t => fsv (fun c => kt W N c t) g (n + 1)) 8 = nsum (fun t => fsv (fun c => kt W N c t) g n + (if (kt W N n t && !anyN (fun c' => kt W N c' t) n) = true then g n else 0)) 8 := nsum_congr (fun t _ => by
      show fsv (fun c => kt W N c t) g (n + 1) = fsv (fun c => kt W N c t) g n + (if (kt W N n t && !anyN (fun c' => kt W N c' t) n) = true then g n else 0)
      rw [fsv_S]
      by_cases ha : anyN (fun c => kt W N c t) n = true
      · rw [if_pos ha, ha]
        simp
      · rw [if_neg ha, fsv_0 ha, Bool.eq_false_iff.mpr ha]
        simp)
    rw [h1, nsum_add, nsum_S, ih]
    congr 1
    by_cases hL : Lk1 W N n = true
    · rw [if_pos hL]
      obtain ⟨t, ht, hk⟩ := anyN_iff.mp hL
      rw [nsum_one ht (fun i hi hne => by
        have : ¬ kt W N n i = true := fun q => hne (kt_one hi ht q (by rw [Bool.and_eq_true] at hk; exact hk.1))
        rw [Bool.eq_false_iff.mpr this, Bool.false_and]
        rfl), if_pos hk]
    · rw [if_neg hL]
      exact (nsum_z (fun t ht => by
        have : ¬ (kt W N n t && !anyN (fun c' => kt W N c' t) n) = true := fun q => hL (anyN_iff.mpr ⟨t, ht, q⟩)
        exact if_neg this)).symm
/-- a set of numbers as a number -/
def gN (g : Nat → Nat) (m : Nat) : Nat := nsum (fun c => if m.testBit c = true then g c else 0) 8
theorem gN_all : (List.range 256).all (fun m => decide (pf_bc (Int32.ofNat m) = Int32.ofNat (gN (fun _ => 1) m)) && decide (gN (fun c => 2 ^ c) m = m)) = true := by decide +kernel
theorem gN_at {m : Nat} (hm : m < 256) : pf_bc (Int32.ofNat m) = (Int32.ofNat (gN (fun _ => 1) m)) ∧ gN (fun c => 2 ^ c) m = m := by
  have := List.all_eq_true.mp gN_all m (List.mem_range.mpr hm)
  rw [Bool.and_eq_true] at this
  exact ⟨of_decide_eq_true this.1, of_decide_eq_true this.2⟩
theorem gN_le {m : Nat} : gN (fun _ => 1) m ≤ 8 := Nat.le_trans (nsum_le (b := 1) (fun t _ => by show (if m.testBit t = true then 1 else 0) ≤ 1; split <;> omega)) (by omega)
def LN (W : Nat → Int32) (N : Nat) : Nat := bsN (Lk1 W N) 8
theorem LN_bit {W : Nat → Int32} {N c : Nat} (hc : c < 8) : (LN W N).testBit c = Lk1 W N c := by
  unfold LN
  rw [← tb_ofNat (by omega), ← (bset_N (Lk1 W N) (N := 8) (by omega)).1, tb_bset _ (by omega) (by omega), decide_eq_true hc, Bool.true_and]
theorem LN_g {W : Nat → Int32} {N : Nat} (g : Nat → Nat) : gN g (LN W N) = nsum (fun t => fsv (fun c => kt W N c t) g 8) 8 := by
  rw [← first_eq g 8]
  exact nsum_congr (fun c hc => by rw [LN_bit hc])
def goodN (W : Nat → Int32) (N m : Nat) : Prop := ∀ t, t < 8 → anyN (fun c => kt W N c t) 8 = true → anyN (fun c => m.testBit c && kt W N c t) 8 = true
theorem good_le {W : Nat → Int32} {N m : Nat} (h : goodN W N m) {g : Nat → Nat} (hg : ∀ a b, a ≤ b → g a ≤ g b) : gN g (LN W N) ≤ gN g m := by
  rw [LN_g]
  refine Nat.le_trans (nsum_mono (g := fun t => fsv (fun c => m.testBit c && kt W N c t) g 8) (fun t ht => fsv_le hg (fun c q => by rw [Bool.and_eq_true] at q; exact q.2) (h t ht))) (cover_le (m.testBit ·) g 8)
theorem good_LN {W : Nat → Int32} {N : Nat} : goodN W N (LN W N) := by
  intro t ht h
  obtain ⟨c, c1, c2, c3, -⟩ := fsv_at (g := fun _ => 0) h
  refine anyN_iff.mpr ⟨c, c1, ?_⟩
  rw [LN_bit c1, Bool.and_eq_true]
  refine ⟨anyN_iff.mpr ⟨t, ht, ?_⟩, c2⟩
  rw [Bool.and_eq_true]
  refine ⟨c2, ?_⟩
  have : anyN (fun c' => kt W N c' t) c = false := Bool.eq_false_iff.mpr (fun q => by
    obtain ⟨i, hi, hk⟩ := anyN_iff.mp q
    exact c3 i hi hk)
  rw [this]
  rfl
theorem good_all {W : Nat → Int32} {N : Nat} (hN : N ≤ 8) : goodN W N (2 ^ N - 1) := by
  intro t ht h
  obtain ⟨c, c1, c2⟩ := anyN_iff.mp h
  refine anyN_iff.mpr ⟨c, c1, ?_⟩
  rw [Bool.and_eq_true]
  exact ⟨tb_all hN (kt_iff.mp c2).1, c2⟩
theorem kb_good {W : Nat → Int32} {N : Nat} (hN : N ≤ 8) (hW : ∀ c, c < N → rm (W (43 + 9 * c + 5)) 8) {m : Nat} : kbW W m N = kbW W (2 ^ N - 1) N ↔ goodN W N m := by
  have hi : ∀ m t, t < 8 → (tb (kbW W m N) t = true ↔ anyN (fun c => m.testBit c && kt W N c t) 8 = true) := fun m t ht => by
    rw [tb_kb hW ht, anyN_iff]
    constructor
    · rintro ⟨c, c1, c2, c3⟩
      exact ⟨c, by omega, by rw [Bool.and_eq_true]; exact ⟨c2, kt_iff.mpr ⟨c1, c3⟩⟩⟩
    · rintro ⟨c, c1, c2⟩
      rw [Bool.and_eq_true] at c2
      exact ⟨c, (kt_iff.mp c2.2).1, c2.1, (kt_iff.mp c2.2).2⟩
  have ho : ∀ m t, 8 ≤ t → t < 32 → tb (kbW W m N) t = false := fun m t h1 h2 => by
    unfold kbW
    rw [tb_ors _ h2]
    refine Bool.eq_false_iff.mpr (fun q => ?_)
    obtain ⟨c, c1, c2⟩ := anyN_iff.mp q
    unfold kbF at c2
    by_cases a : m.testBit c = true
    · rw [if_pos a] at c2
      rcases hW c c1 with e | ⟨k, hk, e⟩
      · rw [if_pos e, tb_0 h2] at c2
        exact absurd c2 (by decide)
      · have hne : ¬ W (43 + 9 * c + 5) = -1 := by rw [e, c_eqm (by omega)]; exact fun z => z
        rw [if_neg hne, e, tb_sh (by omega) h2] at c2
        have := of_decide_eq_true c2
        omega
    · rw [if_neg a, tb_0 h2] at c2
      exact absurd c2 (by decide)
  constructor
  · intro h t ht q
    obtain ⟨c, c1, c2⟩ := anyN_iff.mp q
    rw [← hi m t ht, h, hi _ t ht]
    exact anyN_iff.mpr ⟨c, c1, by rw [Bool.and_eq_true]; exact ⟨tb_all hN (kt_iff.mp c2).1, c2⟩⟩
  · intro h
    apply tb_ext
    intro t ht
    by_cases h8 : t < 8
    · apply bool_iff
      rw [hi m t h8, hi _ t h8]
      constructor
      · intro q
        obtain ⟨c, c1, c2⟩ := anyN_iff.mp q
        rw [Bool.and_eq_true] at c2
        exact anyN_iff.mpr ⟨c, c1, by rw [Bool.and_eq_true]; exact ⟨tb_all hN (kt_iff.mp c2.2).1, c2.2⟩⟩
      · intro q
        obtain ⟨c, c1, c2⟩ := anyN_iff.mp q
        rw [Bool.and_eq_true] at c2
        exact h t h8 (anyN_iff.mpr ⟨c, c1, c2.2⟩)
    · rw [ho m t (by omega) ht, ho _ t (by omega) ht]
theorem rR_all_l {h : am_H} {N : Nat} (hN : N ≤ 8) (e : h.2 374 0 = (Int32.ofNat N)) (hW : ∀ c, c < N → rm (h.2 374 (43 + 9 * c + 5)) 8) (d : Nat) : ∀ (m b : Nat), m ≤ 2 ^ N → b < 256 → goodN (h.2 374) N b → (∀ s, m ≤ s → s < 2 ^ N → goodN (h.2 374) N s → gN (fun _ => 1) b < gN (fun _ => 1) s ∨ gN (fun _ => 1) b = gN (fun _ => 1) s ∧ b ≤ s) → am_go (am_cl (d + 4)) qR_all 1 [.ref 373, .int (kbW (h.2 374) (2 ^ N - 1) N), .int (Int32.ofNat b), .int (if m = 0 then -1 else (Int32.ofNat (m - 1)))] [] h = some (.inl (some ((Int32.ofNat (LN (h.2 374) N)))), h) := by
  have z8 : 2 ^ N ≤ 2 ^ 8 := Nat.pow_le_pow_right (by omega) hN
  have z0 : 0 < 2 ^ N := Nat.pow_pos (by omega)
  intro m
  induction m with
  | zero =>
    intro b _ hb gb hs
    rw [if_pos rfl, ggR_all_1]
    have l1 := good_le gb (g := fun _ => 1) (fun _ _ _ => Nat.le_refl _)
    have l2 := good_le gb (g := fun c => 2 ^ c) (fun _ _ h => Nat.pow_le_pow_right (by omega) h)
    have l3 := good_le (good_all (W := h.2 374) hN) (g := fun c => 2 ^ c) (fun _ _ h => Nat.pow_le_pow_right (by omega) h)
    have lL : LN (h.2 374) N < 256 := bsN_lt _ 8
    rw [(gN_at lL).2, (gN_at hb).2] at l2
    rw [(gN_at lL).2, (gN_at (by omega)).2] at l3
    have := hs (LN (h.2 374) N) (by omega) (by omega) good_LN
    have hbL : b = LN (h.2 374) N := by omega
    rw [hbL]
    simp -implicitDefEqProofs (disch := (first | omega | assumption | exact am_isS_3 | exact am_isS_25 | exact am_isX_356 | exact am_isX_359)) only [ggR_all_0, ggR_all_2, ggR_all_3, ggR_all_4, ggR_all_5, ggR_all_6, ccR_all_0_4, ccR_all_0_3, ccR_all_0_2, ccR_all_0_1, ccR_all_2_2, ccR_all_2_1, ccR_all_3_1, m1_neg, am_kI_x, am_kV_x, am_kI_i, am_nI_i, am_kV_i, am_nV_i, ↓reduceIte, eq_self, if_true, if_false, c_in, c_tn, pn_add, pn_mul, pn_subc, pn_addm, c_le_t, c_le_f, c_lt_t, c_lt_f, c_eq_f, c_eqm, bi_z, bi_1, bi_b, bi_T, bi_F, ite_not, up_eq, up_ne, or_self, or_true, true_or, or_false, false_or, and_true, true_and, and_self, not_true_eq_false, not_false_eq_true, Bool.false_eq_true]
  | succ m ih =>
    intro b hm hb gb hs
    have hi : (if m = 0 then (-1 : Int32) else (Int32.ofNat (m - 1))) = (Int32.ofNat m) + -1 := by
      by_cases h0 : m = 0
      · rw [if_pos h0, h0, z_m1]
      · rw [if_neg h0, pn_addm (by omega)]
    rw [hi] at ih
    rw [if_neg (by omega), Nat.add_sub_cancel, ggR_all_1]
    have b1 := (gN_at hb).1
    have b2 := (gN_at (m := m) (by omega)).1
    have b3 := gN_le (m := m)
    have b4 := gN_le (m := b)
    have kR := fun d => rR_keptBy hN e m d
    have kg := kb_good hN hW (m := m)
    by_cases h1 : gN (fun _ => 1) b < gN (fun _ => 1) m
    · have ih := ih b (by omega) hb gb (fun s s1 s2 gs => by
        by_cases q : s = m
        · subst q; exact Or.inl h1
        · exact hs s (by omega) s2 gs)
      simp -implicitDefEqProofs (disch := (first | omega | assumption | exact am_isS_3 | exact am_isS_25 | exact am_isX_356 | exact am_isX_359)) only [ggR_all_0, ggR_all_2, ggR_all_3, ggR_all_4, ggR_all_5, ggR_all_6, ccR_all_0_4, ccR_all_0_3, ccR_all_0_2, ccR_all_0_1, ccR_all_2_2, ccR_all_2_1, ccR_all_3_1, rR_bc, b1, b2, am_kI_x, am_kV_x, am_kI_i, am_nI_i, am_kV_i, am_nV_i, ↓reduceIte, eq_self, if_true, if_false, c_in, c_tn, pn_add, pn_mul, pn_subc, pn_addm, c_le_t, c_le_f, c_lt_t, c_lt_f, c_eq_f, c_eqm, bi_z, bi_1, bi_b, bi_T, bi_F, ite_not, up_eq, up_ne, or_self, or_true, true_or, or_false, false_or, and_true, true_and, and_self, not_true_eq_false, not_false_eq_true, Bool.false_eq_true]
      exact ih
    · by_cases hg : goodN (h.2 374) N m
      · have ih := ih m (by omega) (by omega) hg (fun s s1 s2 gs => by
          by_cases q : s = m
          · subst q; exact Or.inr ⟨rfl, Nat.le_refl _⟩
          · have := hs s (by omega) s2 gs
            omega)
        have kq := kg.mpr hg
        simp -implicitDefEqProofs (disch := (first | omega | assumption | exact am_isS_3 | exact am_isS_25 | exact am_isX_356 | exact am_isX_359)) only [ggR_all_0, ggR_all_2, ggR_all_3, ggR_all_4, ggR_all_5, ggR_all_6, ccR_all_0_4, ccR_all_0_3, ccR_all_0_2, ccR_all_0_1, ccR_all_2_2, ccR_all_2_1, ccR_all_3_1, rR_bc, b1, b2, kR, kq, am_kI_x, am_kV_x, am_kI_i, am_nI_i, am_kV_i, am_nV_i, ↓reduceIte, eq_self, if_true, if_false, c_in, c_tn, pn_add, pn_mul, pn_subc, pn_addm, c_le_t, c_le_f, c_lt_t, c_lt_f, c_eq_f, c_eqm, bi_z, bi_1, bi_b, bi_T, bi_F, ite_not, up_eq, up_ne, or_self, or_true, true_or, or_false, false_or, and_true, true_and, and_self, not_true_eq_false, not_false_eq_true, Bool.false_eq_true]
        exact ih
      · have ih := ih b (by omega) hb gb (fun s s1 s2 gs => by
          by_cases q : s = m
          · subst q; exact absurd gs hg
          · exact hs s (by omega) s2 gs)
        have kq : ¬ kbW (h.2 374) m N = kbW (h.2 374) (2 ^ N - 1) N := fun q => hg (kg.mp q)
        simp -implicitDefEqProofs (disch := (first | omega | assumption | exact am_isS_3 | exact am_isS_25 | exact am_isX_356 | exact am_isX_359)) only [ggR_all_0, ggR_all_2, ggR_all_3, ggR_all_4, ggR_all_5, ggR_all_6, ccR_all_0_4, ccR_all_0_3, ccR_all_0_2, ccR_all_0_1, ccR_all_2_2, ccR_all_2_1, ccR_all_3_1, rR_bc, b1, b2, kR, kq, am_kI_x, am_kV_x, am_kI_i, am_nI_i, am_kV_i, am_nV_i, ↓reduceIte, eq_self, if_true, if_false, c_in, c_tn, pn_add, pn_mul, pn_subc, pn_addm, c_le_t, c_le_f, c_lt_t, c_lt_f, c_eq_f, c_eqm, bi_z, bi_1, bi_b, bi_T, bi_F, ite_not, up_eq, up_ne, or_self, or_true, true_or, or_false, false_or, and_true, true_and, and_self, not_true_eq_false, not_false_eq_true, Bool.false_eq_true]
        exact ih
theorem low_all : (List.range 256).all (fun m => (List.range 32).all (fun c => tb (Int32.ofNat m &&& -(Int32.ofNat m)) c == (m.testBit c && !anyN m.testBit c))) = true := by decide +kernel
theorem low_at {m c : Nat} (hm : m < 256) (hc : c < 32) : tb ((Int32.ofNat m) &&& -(Int32.ofNat m)) c = (m.testBit c && !anyN m.testBit c) := by
  have := List.all_eq_true.mp (List.all_eq_true.mp low_all m (List.mem_range.mpr hm)) c (List.mem_range.mpr hc)
  exact eq_of_beq this
theorem anyN_congr {p q : Nat → Bool} : ∀ {n : Nat}, (∀ i, i < n → p i = q i) → anyN p n = anyN q n := by
  intro n h
  apply bool_iff
  rw [anyN_iff, anyN_iff]
  exact ⟨fun ⟨i, hi, hp⟩ => ⟨i, hi, by rw [← h i hi]; exact hp⟩, fun ⟨i, hi, hp⟩ => ⟨i, hi, by rw [h i hi]; exact hp⟩⟩
theorem xM_fewestWithAll {h : am_H} {W : Nat → Int32} {N G : Nat} (R : RelS h 3 W N G) (d : Nat) : am_cl (d + 2) qM_fewestWithAll [.ref 3] h = some (.inl (some ((Int32.ofNat (LN W N)))), h) := by
  have hN := R.1
  have r4 := R.2.2.2.1
  have z8 : 2 ^ N ≤ 2 ^ 8 := Nat.pow_le_pow_right (by omega) hN
  have l : ∀ k t (s : Int32) (x3 : Value), t + k = 8 → am_go (am_cl (d + 1)) qM_fewestWithAll 1 [.ref 3, .int s, .int (Int32.ofNat t), x3] [] h = some (.inl (some (itr (fun t b => b ||| (bset (fun c => decide (W (43 + 9 * c + 5) = (Int32.ofNat t))) N &&& -bset (fun c => decide (W (43 + 9 * c + 5) = (Int32.ofNat t))) N)) k t s)), h) := by
    intro k
    induction k with
    | zero =>
      intro t s x3 ht
      rw [ggM_fewestWithAll_1]
      simp -implicitDefEqProofs (disch := (first | omega | assumption | exact am_isS_3 | exact am_isS_25 | exact am_isX_356 | exact am_isX_359)) only [ggM_fewestWithAll_0, ggM_fewestWithAll_2, ggM_fewestWithAll_3, ccM_fewestWithAll_2_1, itr, am_kI_x, am_kV_x, am_kI_i, am_nI_i, am_kV_i, am_nV_i, ↓reduceIte, eq_self, if_true, if_false, c_in, c_tn, pn_add, pn_mul, pn_subc, pn_addm, c_le_t, c_le_f, c_lt_t, c_lt_f, c_eq_f, c_eqm, bi_z, bi_1, bi_b, bi_T, bi_F, ite_not, up_eq, up_ne, or_self, or_true, true_or, or_false, false_or, and_true, true_and, and_self, not_true_eq_false, not_false_eq_true, Bool.false_eq_true]
    | succ k ih =>
      intro t s x3 ht
      have eb := fun d => sS_bitsOf am_isS_3 hN r4 d (k := 5) (by omega) (Int32.ofNat t)
      rw [bs_rel R (k := 5) (by omega) (Int32.ofNat t)] at eb
      have ih := ih (t + 1)
      rw [ggM_fewestWithAll_1]
      simp -implicitDefEqProofs (disch := (first | omega | assumption | exact am_isS_3 | exact am_isS_25 | exact am_isX_356 | exact am_isX_359)) only [ggM_fewestWithAll_0, ggM_fewestWithAll_2, ggM_fewestWithAll_3, ccM_fewestWithAll_2_1, eb, am_kI_x, am_kV_x, am_kI_i, am_nI_i, am_kV_i, am_nV_i, ↓reduceIte, eq_self, if_true, if_false, c_in, c_tn, pn_add, pn_mul, pn_subc, pn_addm, c_le_t, c_le_f, c_lt_t, c_lt_f, c_eq_f, c_eqm, bi_z, bi_1, bi_b, bi_T, bi_F, ite_not, up_eq, up_ne, or_self, or_true, true_or, or_false, false_or, and_true, true_and, and_self, not_true_eq_false, not_false_eq_true, Bool.false_eq_true]
      exact ih _ _ (by omega)
  rw [uM_fewestWithAll, ggM_fewestWithAll_0]
  refine (l 8 0 (Int32.ofNat 0) .null (by omega)).trans ?_
  have e : itr (fun t b => b ||| (bset (fun c => decide (W (43 + 9 * c + 5) = (Int32.ofNat t))) N &&& -bset (fun c => decide (W (43 + 9 * c + 5) = (Int32.ofNat t))) N)) 8 0 (Int32.ofNat 0) = (Int32.ofNat (LN W N)) := by
    apply tb_ext
    intro c hc
    rw [tb_ors (fun t => bset (fun c => decide (W (43 + 9 * c + 5) = (Int32.ofNat t))) N &&& -bset (fun c => decide (W (43 + 9 * c + 5) = (Int32.ofNat t))) N) hc]
    have hL : (Int32.ofNat (LN W N)) = bset (Lk1 W N) 8 := ((bset_N (Lk1 W N) (N := 8) (by omega)).1).symm
    rw [hL, tb_bset _ (by omega) hc]
    have hk : ∀ t c, c < 32 → (bsN (fun c => decide (W (43 + 9 * c + 5) = (Int32.ofNat t))) N).testBit c = kt W N c t := fun t c hc => by
      rw [← tb_ofNat hc, ← (bset_N (fun c => decide (W (43 + 9 * c + 5) = (Int32.ofNat t))) (N := N) (by omega)).1, tb_bset _ (by omega) hc]
      rfl
    have h1 : anyN (fun t => tb (bset (fun c => decide (W (43 + 9 * c + 5) = (Int32.ofNat t))) N &&& -bset (fun c => decide (W (43 + 9 * c + 5) = (Int32.ofNat t))) N) c) 8 = Lk1 W N c := by
      unfold Lk1
      refine anyN_congr (fun t _ => ?_)
      have zl := bsN_lt (fun c => decide (W (43 + 9 * c + 5) = (Int32.ofNat t))) N
      rw [(bset_N (fun c => decide (W (43 + 9 * c + 5) = (Int32.ofNat t))) (N := N) (by omega)).1, low_at (by omega) hc, hk t c hc]
      congr 2
      exact anyN_congr (fun i hi => hk t i (by omega))
    rw [h1]
    by_cases h8 : c < 8
    · rw [decide_eq_true h8, Bool.true_and]
    · rw [decide_eq_false h8, Bool.false_and]
      refine Bool.eq_false_iff.mpr (fun q => ?_)
      obtain ⟨t, ht, hq⟩ := anyN_iff.mp q
      rw [Bool.and_eq_true] at hq
      have := (kt_iff.mp hq.1).1
      omega
  rw [e]
theorem T_all : Ans qF_all [.ref 0] qR_all [.ref 373] := by
  intro d hC hR J
  have J0 := J.thr (Int32.ofNat 0)
  obtain ⟨⟨N, G, R, okt, okc, okk, RL⟩, -⟩ := J
  have hN := R.1
  have r3 := R.2.2.1
  have e : (am_up hR 373 0 (Int32.ofNat 0)).2 374 0 = (Int32.ofNat N) := by rw [up_o (by omega)]; exact r3
  have hW : ∀ c, c < N → rm ((am_up hR 373 0 (Int32.ofNat 0)).2 374 (43 + 9 * c + 5)) 8 := fun c hc => by rw [up_o (by omega)]; exact (okc c hc).2.2.2.2.2.1
  have z8 : 2 ^ N ≤ 2 ^ 8 := Nat.pow_le_pow_right (by omega) hN
  have z0 : 0 < 2 ^ N := Nat.pow_pos (by omega)
  have eC := fun d => xM_fewestWithAll R d
  have kR := fun d => rR_keptBy hN e (2 ^ N - 1) d
  have l := rR_all_l hN e hW (d + 115) (2 ^ N) (2 ^ N - 1) (by omega) (by omega) (good_all hN) (fun s s1 s2 _ => by omega)
  rw [if_neg (by omega)] at l
  rw [up_o (by omega)] at kR l
  have an := all_n hN
  refine ⟨(Int32.ofNat (LN (hR.2 374) N)), hC, am_up hR 373 0 (Int32.ofNat 0), J0, rfl, rfl, up_eq rfl rfl, ?_, ?_⟩
  · simp -implicitDefEqProofs (disch := (first | omega | assumption | exact am_isS_3 | exact am_isS_25 | exact am_isX_356 | exact am_isX_359)) only [uF_all, ggF_all_0, ccF_all_0_1, eC, am_kI_x, am_kV_x, am_kI_i, am_nI_i, am_kV_i, am_nV_i, ↓reduceIte, eq_self, if_true, if_false, c_in, c_tn, pn_add, pn_mul, pn_subc, pn_addm, c_le_t, c_le_f, c_lt_t, c_lt_f, c_eq_f, c_eqm, bi_z, bi_1, bi_b, bi_T, bi_F, ite_not, up_eq, up_ne, or_self, or_true, true_or, or_false, false_or, and_true, true_and, and_self, not_true_eq_false, not_false_eq_true, Bool.false_eq_true]
  · simp -implicitDefEqProofs (disch := (first | omega | assumption | exact am_isS_3 | exact am_isS_25 | exact am_isX_356 | exact am_isX_359)) only [uR_all, ggR_all_0, ggR_all_2, ggR_all_3, ggR_all_4, ggR_all_5, ggR_all_6, ccR_all_0_4, ccR_all_0_3, ccR_all_0_2, ccR_all_0_1, ccR_all_2_2, ccR_all_2_1, ccR_all_3_1, rR_allChildren, up_o, r3, an, kR, am_kI_x, am_kV_x, am_kI_i, am_nI_i, am_kV_i, am_nV_i, ↓reduceIte, eq_self, if_true, if_false, c_in, c_tn, pn_add, pn_mul, pn_subc, pn_addm, c_le_t, c_le_f, c_lt_t, c_lt_f, c_eq_f, c_eqm, bi_z, bi_1, bi_b, bi_T, bi_F, ite_not, up_eq, up_ne, or_self, or_true, true_or, or_false, false_or, and_true, true_and, and_self, not_true_eq_false, not_false_eq_true, Bool.false_eq_true]
    exact l
