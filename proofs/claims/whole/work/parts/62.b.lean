/-! numbers and heaps, for runs by simp -/
theorem c_in {n N : Nat} (h : n < N) (hn : N < 2147483648) : am_in (Int32.ofNat n) N = true := pn_in h hn
theorem c_tn {n : Nat} (h : n < 2147483648) : (Int32.ofNat n).toNatClampNeg = n := pn_tn h
theorem pn_subc {a b : Nat} (h : b ≤ a) : Int32.ofNat a - Int32.ofNat b = Int32.ofNat (a - b) := pn_sub h
theorem c_le_t {a b : Nat} (h : a ≤ b) (hb : b < 2147483648) : (Int32.ofNat a ≤ Int32.ofNat b) = True := eq_true ((pn_le (by omega) hb).mpr h)
theorem c_le_f {a b : Nat} (h : b < a) (ha : a < 2147483648) : (Int32.ofNat a ≤ Int32.ofNat b) = False := eq_false (fun q => by have := (pn_le ha (by omega)).mp q; omega)
theorem c_lt_t {a b : Nat} (h : a < b) (hb : b < 2147483648) : (Int32.ofNat a < Int32.ofNat b) = True := eq_true ((pn_lt (by omega) hb).mpr h)
theorem c_lt_f {a b : Nat} (h : b ≤ a) (ha : a < 2147483648) : (Int32.ofNat a < Int32.ofNat b) = False := eq_false (fun q => by have := (pn_lt ha (by omega)).mp q; omega)
theorem c_eq_f {a b : Nat} (h : a ≠ b) (ha : a < 2147483648) (hb : b < 2147483648) : (Int32.ofNat a = Int32.ofNat b) = False := eq_false (fun q => h ((pn_eq ha hb).mp q))
theorem c_eqm {a : Nat} (ha : a < 2147483648) : (Int32.ofNat a = (-1 : Int32)) = False := eq_false (fun q => by
  have := congrArg Int32.toInt q
  rw [pn_toInt ha] at this
  have h2 : ((-1 : Int32)).toInt = -1 := by decide
  rw [h2] at this
  omega)
def bi (p : Prop) [Decidable p] : Int32 := if p then Int32.ofNat 1 else Int32.ofNat 0
theorem bi_z {p : Prop} [Decidable p] : (bi p = Int32.ofNat 0) = ¬ p := by
  unfold bi
  by_cases hp : p
  · simp [hp]
  · simp [hp]
theorem bi_1 {p : Prop} [Decidable p] : (bi p = Int32.ofNat 1) = p := by
  unfold bi
  by_cases hp : p
  · simp [hp]
  · simp [hp]
theorem bi_b {p : Prop} [Decidable p] : (bi p = Int32.ofNat 0 ∨ bi p = Int32.ofNat 1) = True := by
  rw [bi_z, bi_1]
  by_cases hp : p
  · simp [hp]
  · simp [hp]
theorem bi_t {p : Prop} [Decidable p] (hp : p) : bi p = Int32.ofNat 1 := if_pos hp
theorem bi_f {p : Prop} [Decidable p] (hp : ¬ p) : bi p = Int32.ofNat 0 := if_neg hp
theorem bi_congr {p q : Prop} [Decidable p] [Decidable q] (h : p ↔ q) : bi p = bi q := by
  by_cases hp : p
  · rw [bi_t hp, bi_t (h.mp hp)]
  · rw [bi_f hp, bi_f (fun q => hp (h.mpr q))]
theorem fold_bi {p : Prop} [Decidable p] {h : am_H} : (if p then some (.inl (some (Int32.ofNat 1)), h) else some (.inl (some (Int32.ofNat 0)), h) : Option am_R) = some (.inl (some (bi p)), h) := by
  by_cases hp : p
  · rw [if_pos hp, bi_t hp]
  · rw [if_neg hp, bi_f hp]
theorem fold_bn {p : Prop} [Decidable p] {h : am_H} : (if p then some (.inl (some (Int32.ofNat 0)), h) else some (.inl (some (Int32.ofNat 1)), h) : Option am_R) = some (.inl (some (bi (¬ p))), h) := by
  by_cases hp : p
  · rw [if_pos hp, bi_f (fun q => q hp)]
  · rw [if_neg hp, bi_t hp]
theorem fold_v {p : Prop} [Decidable p] {a b : Int32} {h : am_H} : (if p then some (.inl (some a), h) else some (.inl (some b), h) : Option am_R) = some (.inl (some (if p then a else b)), h) := by
  by_cases hp : p
  · rw [if_pos hp, if_pos hp]
  · rw [if_neg hp, if_neg hp]
theorem up_eq {h : am_H} {o i o' i' : Nat} {v : Int32} (ho : o' = o) (hi : i' = i) : (am_up h o i v).2 o' i' = v := if_pos ⟨ho, hi⟩
theorem up_ne {h : am_H} {o i o' i' : Nat} {v : Int32} (hn : o' ≠ o ∨ i' ≠ i) : (am_up h o i v).2 o' i' = h.2 o' i' := if_neg (fun q => hn.elim (fun a => a q.1) (fun a => a q.2))
theorem up_1 {h : am_H} {o i : Nat} {v : Int32} : (am_up h o i v).1 = h.1 := rfl
theorem cp_1 {h : am_H} {s sp t tp n : Nat} : (am_cp h s sp t tp n).1 = h.1 := rfl
theorem cp_in {h : am_H} {s sp t tp n o' i' : Nat} (ho : o' = t) (h1 : tp ≤ i') (h2 : i' < tp + n) : (am_cp h s sp t tp n).2 o' i' = h.2 s (sp + (i' - tp)) := if_pos ⟨ho, h1, h2⟩
theorem cp_ne {h : am_H} {s sp t tp n o' i' : Nat} (hn : o' ≠ t ∨ i' < tp ∨ tp + n ≤ i') : (am_cp h s sp t tp n).2 o' i' = h.2 o' i' := if_neg (fun q => by obtain ⟨q1, q2, q3⟩ := q; omega)
theorem up_same {h : am_H} {o i : Nat} {v w : Int32} : am_up (am_up h o i v) o i w = am_up h o i w := by
  unfold am_up
  simp only
  congr 1
  funext o' i'
  by_cases hq : o' = o ∧ i' = i
  · rw [if_pos hq, if_pos hq]
  · rw [if_neg hq, if_neg hq, if_neg hq]
/-- a loop that counts up: N rounds -/
def itr {σ : Type} (f : Nat → σ → σ) : Nat → Nat → σ → σ
  | 0, _, s => s
  | k + 1, c, s => itr f k (c + 1) (f c s)
theorem lp {σ : Type} {Φ : am_F} {q b N : Nat} (L : Nat → σ → List Value) (H : σ → am_H) (f : Nat → σ → σ) (R : σ → Option am_R) (step : ∀ i s, i < N → am_go Φ q b (L i s) [] (H s) = am_go Φ q b (L (i + 1) (f i s)) [] (H (f i s))) (exit : ∀ s, am_go Φ q b (L N s) [] (H s) = R s) : ∀ k c s, c + k = N → am_go Φ q b (L c s) [] (H s) = R (itr f k c s) := by
  intro k
  induction k with
  | zero => intro c s hc; rw [show c = N by omega]; exact exit s
  | succ k ih => intro c s hc; rw [step c s (by omega)]; exact ih (c + 1) (f c s) (by omega)
theorem itr_congr {σ : Type} {f g : Nat → σ → σ} : ∀ (k c : Nat) (s : σ), (∀ i s, c ≤ i → i < c + k → f i s = g i s) → itr f k c s = itr g k c s := by
  intro k
  induction k with
  | zero => intro c s _; rfl
  | succ k ih =>
    intro c s h
    show itr f k (c + 1) (f c s) = itr g k (c + 1) (g c s)
    rw [h c s (by omega) (by omega)]
    exact ih (c + 1) _ (fun i s h1 h2 => h i s (by omega) (by omega))
theorem itr_succ {σ : Type} (f : Nat → σ → σ) : ∀ (k c : Nat) (s : σ), itr f (k + 1) c s = f (c + k) (itr f k c s) := by
  intro k
  induction k with
  | zero => intro c s; rfl
  | succ k ih =>
    intro c s
    show itr f (k + 1) (c + 1) (f c s) = f (c + (k + 1)) (itr f k (c + 1) (f c s))
    rw [ih (c + 1) (f c s)]
    congr 1
    omega
theorem itr_inv {σ : Type} {f : Nat → σ → σ} (P : Nat → σ → Prop) : ∀ (k c : Nat) (s : σ), P c s → (∀ i s, c ≤ i → i < c + k → P i s → P (i + 1) (f i s)) → P (c + k) (itr f k c s) := by
  intro k
  induction k with
  | zero => intro c s h _; exact h
  | succ k ih =>
    intro c s h hs
    have := ih (c + 1) (f c s) (hs c s (by omega) (by omega) h) (fun i s h1 h2 => hs i s (by omega) (by omega))
    rw [show c + (k + 1) = c + 1 + k by omega]
    exact this
theorem pn_addm {a : Nat} (h : 1 ≤ a) : Int32.ofNat a + (-1 : Int32) = Int32.ofNat (a - 1) := by
  have e : Int32.ofNat a = Int32.ofNat (a - 1) + Int32.ofNat 1 := by rw [pn_add, Nat.sub_add_cancel h]
  rw [e, Int32.add_assoc]
  have : Int32.ofNat 1 + (-1 : Int32) = 0 := by decide
  rw [this, Int32.add_zero]
theorem bi_T [Decidable True] : bi True = Int32.ofNat 1 := if_pos trivial
theorem bi_F [Decidable False] : bi False = Int32.ofNat 0 := if_neg (fun h => h)
theorem am_kI_x (e : Nat) (h : am_H) (f : Int32 → am_H → Option am_R) : am_kI (some (.inr e, h)) f = some (.inr e, h) := rfl
theorem am_kV_x (e : Nat) (h : am_H) (f : am_H → Option am_R) : am_kV (some (.inr e, h)) f = some (.inr e, h) := rfl
