/-! THE RELATION between a state of the class (cell o) and the reference's row W -/
theorem iSkc {o : Nat} (H : am_isS o) {k : Nat} (hk : k < 9) : am_kd (o + 7 + k) = 20 := by obtain ⟨h0, h1, h2, h3, h4, h5, h6, h7, h8, h9, h10, h11, h12⟩ := H; exact (h11 k hk).1
theorem iSnc {o : Nat} (H : am_isS o) {k : Nat} (hk : k < 9) : am_ln (o + 7 + k) = 8 := by obtain ⟨h0, h1, h2, h3, h4, h5, h6, h7, h8, h9, h10, h11, h12⟩ := H; exact (h11 k hk).2
theorem iSkt {o : Nat} (H : am_isS o) {k : Nat} (hk : k < 4) : am_kd (o + 2 + k) = 20 := by obtain ⟨h0, h1, h2, h3, h4, h5, h6, h7, h8, h9, h10, h11, h12⟩ := H; exact (h10 k hk).1
theorem iSnt {o : Nat} (H : am_isS o) {k : Nat} (hk : k < 4) : am_ln (o + 2 + k) = 9 := by obtain ⟨h0, h1, h2, h3, h4, h5, h6, h7, h8, h9, h10, h11, h12⟩ := H; exact (h10 k hk).2
theorem iSkl {o : Nat} (H : am_isS o) {k : Nat} (hk : k < 5) : am_kd (o + 17 + k) = 20 := by obtain ⟨h0, h1, h2, h3, h4, h5, h6, h7, h8, h9, h10, h11, h12⟩ := H; exact (h12 k hk).1
theorem iSnl {o : Nat} (H : am_isS o) {k : Nat} (hk : k < 5) : am_ln (o + 17 + k) = 8 := by obtain ⟨h0, h1, h2, h3, h4, h5, h6, h7, h8, h9, h10, h11, h12⟩ := H; exact (h12 k hk).2
/-- a row with one place written -/
def pu (W : Nat → Int32) (i : Nat) (v : Int32) : Nat → Int32 := fun j => if j = i then v else W j
theorem pu_eq {W : Nat → Int32} {i j : Nat} {v : Int32} (h : j = i) : pu W i v j = v := if_pos h
theorem pu_ne {W : Nat → Int32} {i j : Nat} {v : Int32} (h : j ≠ i) : pu W i v j = W j := if_neg h
theorem up_pu {h : am_H} {o i : Nat} {v : Int32} : (am_up h o i v).2 o = pu (h.2 o) i v := by
  funext j
  by_cases hj : j = i
  · rw [up_eq rfl hj, pu_eq hj]
  · rw [up_ne (Or.inr hj), pu_ne hj]
theorem up_o {h : am_H} {o o' i : Nat} {v : Int32} (ho : o' ≠ o) : (am_up h o i v).2 o' = h.2 o' := by
  funext j
  exact up_ne (Or.inl ho)
theorem cp_o {h : am_H} {s sp t tp n o' : Nat} (ho : o' ≠ t) : (am_cp h s sp t tp n).2 o' = h.2 o' := by
  funext j
  exact cp_ne (Or.inl ho)
/-- the count of those below N -/
def cnt (p : Nat → Bool) : Nat → Nat
  | 0 => 0
  | n + 1 => cnt p n + (if p n = true then 1 else 0)
theorem cnt_congr {p q : Nat → Bool} : ∀ {N : Nat}, (∀ c, c < N → p c = q c) → cnt p N = cnt q N := by
  intro N
  induction N with
  | zero => intro _; rfl
  | succ n ih => intro h; show cnt p n + _ = cnt q n + _; rw [ih (fun c hc => h c (by omega)), h n (by omega)]
theorem cnt_le {p : Nat → Bool} : ∀ (N : Nat), cnt p N ≤ N := by
  intro N
  induction N with
  | zero => exact Nat.le_refl _
  | succ n ih => show cnt p n + _ ≤ n + 1; split <;> omega
theorem cnt_lt {p : Nat → Bool} {c : Nat} (hp : p c = false) : ∀ {N : Nat}, c < N → cnt p N < N := by
  intro N
  induction N with
  | zero => intro h; omega
  | succ n ih =>
    intro h
    show cnt p n + _ < n + 1
    by_cases hc : c = n
    · rw [← hc, hp]
      have := cnt_le (p := p) c
      simp
      omega
    · have := ih (by omega)
      split <;> omega
theorem cnt_set {p q : Nat → Bool} {c : Nat} (hp : p c = false) (hq : q c = true) : ∀ {N : Nat}, (∀ j, j < N → j ≠ c → q j = p j) → c < N → cnt q N = cnt p N + 1 := by
  intro N
  induction N with
  | zero => intro _ h; omega
  | succ n ih =>
    intro hne h
    show cnt q n + _ = cnt p n + _ + 1
    by_cases hc : c = n
    · rw [← hc, hp, hq, cnt_congr (p := q) (q := p) (fun j hj => hne j (by omega) (by omega))]
      simp
    · rw [ih (fun j h1 h2 => hne j (by omega) h2) (by omega), hne n (by omega) (by omega)]
      omega
def rg (x : Int32) (b : Nat) : Prop := ∃ n, n < b ∧ x = Int32.ofNat n
def rm (x : Int32) (b : Nat) : Prop := x = -1 ∨ rg x b
/-- class and row have the same -/
def RelS (h : am_H) (o : Nat) (W : Nat → Int32) (N G : Nat) : Prop :=
  N ≤ 8 ∧ G ≤ N ∧ W 0 = (Int32.ofNat N) ∧ h.2 o 3 = (Int32.ofNat N) ∧ W 5 = (Int32.ofNat G) ∧ h.2 o 4 = (Int32.ofNat G) ∧ h.2 o 5 = W 3 ∧ h.2 o 6 = W 1 ∧ h.2 o 7 = W 6 ∧ h.2 (o + 2 + 0) 8 = W 4 ∧ (∀ k t, k < 4 → t < 9 → (t < 8 ∨ 1 ≤ k) → h.2 (o + 2 + k) t = W (7 + 4 * t + k)) ∧ (∀ k c, k < 9 → c < 8 → h.2 (o + 7 + k) c = W (43 + 9 * c + k)) ∧ ∀ k r, k < 5 → r < G → h.2 (o + 17 + k) r = W (115 + 5 * (G - 1 - r) + k)
/-- the bounds of a row -/
def okT (W : Nat → Int32) : Prop := rg (W 3) 10000 ∧ rg (W 4) 10 ∧ rg (W 1) 13 ∧ W 40 = (Int32.ofNat 0) ∧ W 41 = (Int32.ofNat 0) ∧ W 42 = (Int32.ofNat 0) ∧ ∀ t, t < 8 → rg (W (7 + 4 * t + 0)) 10 ∧ rg (W (7 + 4 * t + 1)) 10 ∧ rg (W (7 + 4 * t + 2)) 10 ∧ rg (W (7 + 4 * t + 3)) 100
def okC (W : Nat → Int32) (N : Nat) : Prop := ∀ c, c < N → rg (W (43 + 9 * c + 0)) 1000 ∧ rg (W (43 + 9 * c + 1)) 9 ∧ rg (W (43 + 9 * c + 2)) 32 ∧ rg (W (43 + 9 * c + 3)) 10 ∧ rm (W (43 + 9 * c + 4)) 8 ∧ rm (W (43 + 9 * c + 5)) 8 ∧ rg (W (43 + 9 * c + 6)) 1000 ∧ rg (W (43 + 9 * c + 7)) 2 ∧ rm (W (43 + 9 * c + 8)) N
/-- knots and opened ones -/
def okK (W : Nat → Int32) (N G : Nat) : Prop := (∀ c, c < N → (W (43 + 9 * c + 7) = (Int32.ofNat 1) ↔ W (43 + 9 * c + 2) = (Int32.ofNat 0))) ∧ (∀ c k, c < N → k < N → W (43 + 9 * c + 8) = (Int32.ofNat k) → k ≠ c ∧ W (43 + 9 * k + 8) = (Int32.ofNat c) ∧ W (43 + 9 * c + 7) = (Int32.ofNat 0)) ∧ cnt (fun c => decide (W (43 + 9 * c + 7) = (Int32.ofNat 1))) N = G
theorem rg_of {x : Int32} {b n : Nat} (h : n < b) (e : x = (Int32.ofNat n)) : rg x b := ⟨n, h, e⟩
theorem rg_mono {x : Int32} {b b' : Nat} (h : rg x b) (hb : b ≤ b') : rg x b' := by
  obtain ⟨n, hn, e⟩ := h
  exact ⟨n, by omega, e⟩
/-- both write the same fact of a child -/
theorem RelS.ch {h : am_H} {o : Nat} {W : Nat → Int32} {N G : Nat} (R : RelS h o W N G) {k c : Nat} (hk : k < 9) (hc : c < 8) (v : Int32) : RelS (am_up h (o + 7 + k) c v) o (pu W (43 + 9 * c + k) v) N G := by
  obtain ⟨r1, r2, r3, r4, r5, r6, r7, r8, r9, r10, r11, r12, r13⟩ := R
  refine ⟨r1, r2, ?_, ?_, ?_, ?_, ?_, ?_, ?_, ?_, ?_, ?_, ?_⟩
  · rw [pu_ne (by omega)]; exact r3
  · rw [up_ne (by omega)]; exact r4
  · rw [pu_ne (by omega)]; exact r5
  · rw [up_ne (by omega)]; exact r6
  · rw [up_ne (by omega), pu_ne (by omega)]; exact r7
  · rw [up_ne (by omega), pu_ne (by omega)]; exact r8
  · rw [up_ne (by omega), pu_ne (by omega)]; exact r9
  · rw [up_ne (by omega), pu_ne (by omega)]; exact r10
  · intro k' t hk' ht hh
    rw [up_ne (by omega), pu_ne (by omega)]; exact r11 k' t hk' ht hh
  · intro k' c' hk' hc'
    by_cases hq : k' = k ∧ c' = c
    · rw [up_eq (by omega) (by omega), pu_eq (by omega)]
    · rw [up_ne (by omega), pu_ne (by omega)]; exact r12 k' c' hk' hc'
  · intro k' r hk' hr
    rw [up_ne (by omega), pu_ne (by omega)]; exact r13 k' r hk' hr
theorem RelS.month {h : am_H} {o : Nat} {W : Nat → Int32} {N G : Nat} (R : RelS h o W N G) (v : Int32) : RelS (am_up h o 5 v) o (pu W 3 v) N G := by
  obtain ⟨r1, r2, r3, r4, r5, r6, r7, r8, r9, r10, r11, r12, r13⟩ := R
  refine ⟨r1, r2, ?_, ?_, ?_, ?_, ?_, ?_, ?_, ?_, ?_, ?_, ?_⟩
  · rw [pu_ne (by omega)]; exact r3
  · rw [up_ne (by omega)]; exact r4
  · rw [pu_ne (by omega)]; exact r5
  · rw [up_ne (by omega)]; exact r6
  · rw [up_eq rfl rfl, pu_eq rfl]
  · rw [up_ne (by omega), pu_ne (by omega)]; exact r8
  · rw [up_ne (by omega), pu_ne (by omega)]; exact r9
  · rw [up_ne (by omega), pu_ne (by omega)]; exact r10
  · intro k' t hk' ht hh
    rw [up_ne (by omega), pu_ne (by omega)]; exact r11 k' t hk' ht hh
  · intro k' c' hk' hc'
    rw [up_ne (by omega), pu_ne (by omega)]; exact r12 k' c' hk' hc'
  · intro k' r hk' hr
    rw [up_ne (by omega), pu_ne (by omega)]; exact r13 k' r hk' hr
theorem RelS.seed {h : am_H} {o : Nat} {W : Nat → Int32} {N G : Nat} (R : RelS h o W N G) (v : Int32) : RelS (am_up h o 7 v) o (pu W 6 v) N G := by
  obtain ⟨r1, r2, r3, r4, r5, r6, r7, r8, r9, r10, r11, r12, r13⟩ := R
  refine ⟨r1, r2, ?_, ?_, ?_, ?_, ?_, ?_, ?_, ?_, ?_, ?_, ?_⟩
  · rw [pu_ne (by omega)]; exact r3
  · rw [up_ne (by omega)]; exact r4
  · rw [pu_ne (by omega)]; exact r5
  · rw [up_ne (by omega)]; exact r6
  · rw [up_ne (by omega), pu_ne (by omega)]; exact r7
  · rw [up_ne (by omega), pu_ne (by omega)]; exact r8
  · rw [up_eq rfl rfl, pu_eq rfl]
  · rw [up_ne (by omega), pu_ne (by omega)]; exact r10
  · intro k' t hk' ht hh
    rw [up_ne (by omega), pu_ne (by omega)]; exact r11 k' t hk' ht hh
  · intro k' c' hk' hc'
    rw [up_ne (by omega), pu_ne (by omega)]; exact r12 k' c' hk' hc'
  · intro k' r hk' hr
    rw [up_ne (by omega), pu_ne (by omega)]; exact r13 k' r hk' hr
/-- what lies outside the state's cells doesn't matter -/
theorem RelS.frame {h h' : am_H} {o : Nat} {W : Nat → Int32} {N G : Nat} (R : RelS h o W N G) (f : ∀ p, o ≤ p → p < o + 22 → h'.2 p = h.2 p) : RelS h' o W N G := by
  obtain ⟨r1, r2, r3, r4, r5, r6, r7, r8, r9, r10, r11, r12, r13⟩ := R
  refine ⟨r1, r2, r3, ?_, r5, ?_, ?_, ?_, ?_, ?_, ?_, ?_, ?_⟩
  · rw [f _ (by omega) (by omega)]; exact r4
  · rw [f _ (by omega) (by omega)]; exact r6
  · rw [f _ (by omega) (by omega)]; exact r7
  · rw [f _ (by omega) (by omega)]; exact r8
  · rw [f _ (by omega) (by omega)]; exact r9
  · rw [f _ (by omega) (by omega)]; exact r10
  · intro k' t hk' ht hh
    rw [f _ (by omega) (by omega)]; exact r11 k' t hk' ht hh
  · intro k' c' hk' hc'
    rw [f _ (by omega) (by omega)]; exact r12 k' c' hk' hc'
  · intro k' r hk' hr
    rw [f _ (by omega) (by omega)]; exact r13 k' r hk' hr
theorem RelS.row {h : am_H} {o : Nat} {W W' : Nat → Int32} {N G : Nat} (R : RelS h o W N G) (f : ∀ j, j < 415 → W' j = W j) : RelS h o W' N G := by
  obtain ⟨r1, r2, r3, r4, r5, r6, r7, r8, r9, r10, r11, r12, r13⟩ := R
  refine ⟨r1, r2, ?_, r4, ?_, r6, ?_, ?_, ?_, ?_, ?_, ?_, ?_⟩
  · rw [f _ (by omega)]; exact r3
  · rw [f _ (by omega)]; exact r5
  · rw [f _ (by omega)]; exact r7
  · rw [f _ (by omega)]; exact r8
  · rw [f _ (by omega)]; exact r9
  · rw [f _ (by omega)]; exact r10
  · intro k' t hk' ht hh
    rw [f _ (by omega)]; exact r11 k' t hk' ht hh
  · intro k' c' hk' hc'
    rw [f _ (by omega)]; exact r12 k' c' hk' hc'
  · intro k' r hk' hr
    rw [f _ (by omega)]; exact r13 k' r hk' hr
theorem okT.of {W W' : Nat → Int32} (H : okT W) (f : ∀ j, j < 43 → j ≠ 6 → W' j = W j) : okT W' := by
  obtain ⟨a, b, c, e1, e2, e3, t⟩ := H
  refine ⟨by rw [f _ (by omega) (by omega)]; exact a, by rw [f _ (by omega) (by omega)]; exact b, by rw [f _ (by omega) (by omega)]; exact c, by rw [f _ (by omega) (by omega)]; exact e1, by rw [f _ (by omega) (by omega)]; exact e2, by rw [f _ (by omega) (by omega)]; exact e3, fun i hi => ?_⟩
  rw [f _ (by omega) (by omega), f _ (by omega) (by omega), f _ (by omega) (by omega), f _ (by omega) (by omega)]
  exact t i hi
theorem okC.of {W W' : Nat → Int32} {N : Nat} (H : okC W N) (hN : N ≤ 8) (f : ∀ j, 43 ≤ j → j < 115 → W' j = W j) : okC W' N := by
  intro c hc
  rw [f (43 + 9 * c + 0) (by omega) (by omega), f (43 + 9 * c + 1) (by omega) (by omega), f (43 + 9 * c + 2) (by omega) (by omega), f (43 + 9 * c + 3) (by omega) (by omega), f (43 + 9 * c + 4) (by omega) (by omega), f (43 + 9 * c + 5) (by omega) (by omega), f (43 + 9 * c + 6) (by omega) (by omega), f (43 + 9 * c + 7) (by omega) (by omega), f (43 + 9 * c + 8) (by omega) (by omega)]
  exact H c hc
theorem okK.of {W W' : Nat → Int32} {N G : Nat} (H : okK W N G) (hN : N ≤ 8) (f : ∀ j, 43 ≤ j → j < 115 → W' j = W j) : okK W' N G := by
  obtain ⟨a, b, e⟩ := H
  refine ⟨fun c hc => ?_, fun c k hc hk => ?_, ?_⟩
  · rw [f _ (by omega) (by omega), f _ (by omega) (by omega)]; exact a c hc
  · rw [f _ (by omega) (by omega), f _ (by omega) (by omega), f _ (by omega) (by omega)]; exact b c k hc hk
  · rw [← e]
    exact cnt_congr (fun c hc => by rw [f _ (by omega) (by omega)])
