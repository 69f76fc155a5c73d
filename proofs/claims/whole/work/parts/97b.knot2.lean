/-! knots: the reference's search -/
def RP (s : Nat) : Nat → Nat → Nat → Prop
  | 0, _, _ => False
  | 1, m, q => m < 10 ∧ kmv s m = true ∧ q = kgo s m
  | n + 2, m, q => ∃ q' j, RP s (n + 1) m q' ∧ ¬ kout q' = true ∧ j < 10 ∧ kmv q' j = true ∧ q = kgo q' j
theorem RP_S {s n m q' j : Nat} (hn : 1 ≤ n) (h : RP s n m q') (ho : ¬ kout q' = true) (hj : j < 10) (hk : kmv q' j = true) : RP s (n + 1) m (kgo q' j) := by
  obtain ⟨n, rfl⟩ : ∃ n', n = n' + 1 := ⟨n - 1, by omega⟩
  exact ⟨q', j, h, ho, hj, hk, rfl⟩
theorem RP_lt {s : Nat} (hs : s < 1024) : ∀ n m q, RP s n m q → q < 1024 ∧ m < 10 ∧ 1 ≤ n := by
  intro n
  induction n with
  | zero => intro m q h; exact h.elim
  | succ n ih =>
    intro m q h
    cases n with
    | zero =>
      obtain ⟨a, b, c⟩ := h
      rw [c]
      exact ⟨(kgo_at hs a).1, a, Nat.le_refl _⟩
    | succ n =>
      obtain ⟨q', j, a, b, c, e, f⟩ := h
      obtain ⟨x, y, z⟩ := ih m q' a
      rw [f]
      exact ⟨(kgo_at x c).1, y, by omega⟩
theorem RP_X {s : Nat} : ∀ n m q t, RP s n m q → klev t q = true → kmv s m = true ∧ klev (t + n - 1) (kgo s m) = true := by
  intro n
  induction n with
  | zero => intro m q t h; exact h.elim
  | succ n ih =>
    intro m q t h hq
    cases n with
    | zero =>
      obtain ⟨a, b, c⟩ := h
      rw [c] at hq
      exact ⟨b, hq⟩
    | succ n =>
      obtain ⟨q', j, a, b, c, e, f⟩ := h
      rw [f] at hq
      obtain ⟨x, y⟩ := ih m q' (t + 1) a (klev_S.mpr (Or.inr ⟨j, c, e, hq⟩))
      exact ⟨x, by rw [show t + (n + 1 + 1) - 1 = t + 1 + (n + 1) - 1 by omega]; exact y⟩
theorem RP_Y {s : Nat} : ∀ k n m q, RP s n m q → 1 ≤ n → klev k q = true → ∃ q' n', n' ≤ n + k ∧ kout q' = true ∧ RP s n' m q' := by
  intro k
  induction k with
  | zero => intro n m q h _ hq; exact ⟨q, n, by omega, hq, h⟩
  | succ k ih =>
    intro n m q h hn hq
    rcases klev_S.mp hq with hq | ⟨j, j1, j2, j3⟩
    · obtain ⟨q', n', a, b, c⟩ := ih n m q h hn hq
      exact ⟨q', n', by omega, b, c⟩
    · by_cases ho : kout q = true
      · exact ⟨q, n, by omega, ho, h⟩
      · obtain ⟨q', n', a, b, c⟩ := ih (n + 1) m (kgo q j) (RP_S hn h ho j1 j2) (by omega) j3
        exact ⟨q', n', by omega, b, c⟩
/-- the search so far -/
def QI (s : Nat) (dn fn qn : Nat → Nat) (ds : Nat → Bool) (n i : Nat) : Prop :=
  (∀ j, j < n → qn j < 1024 ∧ ds (qn j) = true ∧ dn (qn j) ≤ j) ∧ cnt ds 1024 = n ∧ (∀ p, p < 1024 → ds p = true → ∃ j, j < n ∧ qn j = p) ∧ (∀ j k, j ≤ k → k < n → dn (qn j) ≤ dn (qn k)) ∧ (1 ≤ n ∧ ds s = true ∧ dn s = 0) ∧ (∀ p, p < 1024 → ds p = true → p ≠ s → RP s (dn p) (fn p) p) ∧ (∀ j, j < i → j < n → ¬ kout (qn j) = true → ∀ m, m < 10 → kmv (qn j) m = true → ds (kgo (qn j) m) = true ∧ dn (kgo (qn j) m) ≤ dn (qn j) + 1 ∧ (dn (kgo (qn j) m) = dn (qn j) + 1 → fn (kgo (qn j) m) ≤ if qn j = s then m else fn (qn j))) ∧ (i < n → ∀ j, j < n → dn (qn j) ≤ dn (qn i) + 1)
def QM (s : Nat) (dn fn qn : Nat → Nat) (ds : Nat → Bool) (i m : Nat) : Prop := ∀ m', m' < m → m' < 10 → kmv (qn i) m' = true → ds (kgo (qn i) m') = true ∧ dn (kgo (qn i) m') ≤ dn (qn i) + 1 ∧ (dn (kgo (qn i) m') = dn (qn i) + 1 → fn (kgo (qn i) m') ≤ if qn i = s then m' else fn (qn i))
theorem Q_path {s : Nat} {dn fn qn : Nat → Nat} {ds : Nat → Bool} {n i m : Nat} (H : QI s dn fn qn ds n i) (hi : i < n) (ho : ¬ kout (qn i) = true) (hm : m < 10) (hk : kmv (qn i) m = true) : RP s (dn (qn i) + 1) (if qn i = s then m else fn (qn i)) (kgo (qn i) m) := by
  obtain ⟨a, b, c, e, f, g, k, l⟩ := H
  obtain ⟨i1, i2, i3⟩ := a i hi
  by_cases z : qn i = s
  · rw [if_pos z, z, f.2.2]
    rw [z] at hk
    exact ⟨hm, hk, rfl⟩
  · rw [if_neg z]
    have h := g _ i1 i2 z
    have h1 : 1 ≤ dn (qn i) := by
      cases hd : dn (qn i) with
      | zero => rw [hd] at h; exact h.elim
      | succ n => omega
    exact RP_S h1 h ho hm hk
theorem QI_add {s : Nat} {dn fn qn : Nat → Nat} {ds : Nat → Bool} {n i m : Nat} (H : QI s dn fn qn ds n i) (M : QM s dn fn qn ds i m) (hi : i < n) (ho : ¬ kout (qn i) = true) (hm : m < 10) (hk : kmv (qn i) m = true) (hd : ds (kgo (qn i) m) = false) : n < 1024 ∧ QI s (updN dn (kgo (qn i) m) (dn (qn i) + 1)) (updN fn (kgo (qn i) m) (if qn i = s then m else fn (qn i))) (updN qn n (kgo (qn i) m)) (updB ds (kgo (qn i) m)) (n + 1) i ∧ QM s (updN dn (kgo (qn i) m) (dn (qn i) + 1)) (updN fn (kgo (qn i) m) (if qn i = s then m else fn (qn i))) (updN qn n (kgo (qn i) m)) (updB ds (kgo (qn i) m)) i (m + 1) := by
  have hp := Q_path H hi ho hm hk
  obtain ⟨a, b, c, e, f, g, k, l⟩ := H
  obtain ⟨i1, i2, i3⟩ := a i hi
  have r1 := (kgo_at i1 hm).1
  generalize hr : kgo (qn i) m = r at *
  have hn : n < 1024 := by rw [← b]; exact cnt_lt hd r1
  have dsr : ∀ p, ds p = true → p ≠ r := fun p hp q => by rw [q, hd] at hp; exact absurd hp (by decide)
  have nr : ∀ j, j < n → qn j ≠ r := fun j hj => dsr _ (a j hj).2.1
  have sr : s ≠ r := dsr s f.2.1
  have q1 : ∀ j, j < n → updN qn n r j = qn j := fun j hj => updN_ne (by omega)
  have qi := q1 i hi
  have d1 : ∀ v, ∀ j, j < n → updN dn r v (qn j) = dn (qn j) := fun v j hj => updN_ne (nr j hj)
  have f1 : ∀ v, ∀ j, j < n → updN fn r v (qn j) = fn (qn j) := fun v j hj => updN_ne (nr j hj)
  have li := l hi
  refine ⟨hn, ⟨fun j hj => ?_, ?_, fun p hp hdp => ?_, fun j k' hj hk' => ?_, ⟨by omega, by rw [updB_ne sr]; exact f.2.1, by rw [updN_ne sr]; exact f.2.2⟩, fun p hp' hdp hps => ?_, fun j hj hjn hko m' hm' hkm => ?_, fun _ j hj => ?_⟩, fun m' h1 h2 h3 => ?_⟩
  · by_cases z : j = n
    · rw [z, updN_eq, updN_eq, updB_eq]
      exact ⟨r1, rfl, by omega⟩
    · obtain ⟨a1, a2, a3⟩ := a j (by omega)
      rw [q1 j (by omega), d1 _ j (by omega), updB_ne (nr j (by omega))]
      exact ⟨a1, a2, a3⟩
  · rw [← b]
    exact cnt_set hd updB_eq (fun j _ hj => updB_ne hj) r1
  · by_cases z : p = r
    · exact ⟨n, by omega, by rw [updN_eq, z]⟩
    · rw [updB_ne z] at hdp
      obtain ⟨j, j1, j2⟩ := c p hp hdp
      exact ⟨j, by omega, by rw [q1 j j1]; exact j2⟩
  · by_cases z : k' = n
    · rw [z, updN_eq, updN_eq]
      by_cases w : j = n
      · rw [w, updN_eq, updN_eq]; exact Nat.le_refl _
      · rw [q1 j (by omega), d1 _ j (by omega)]; exact li j (by omega)
    · rw [q1 j (by omega), d1 _ j (by omega), q1 k' (by omega), d1 _ k' (by omega)]
      exact e j k' hj (by omega)
  · by_cases z : p = r
    · rw [z, updN_eq, updN_eq]
      exact hp
    · rw [updN_ne z, updN_ne z]
      rw [updB_ne z] at hdp
      exact g p hp' hdp hps
  · have hjn' : j < n := by omega
    rw [q1 j hjn'] at hko hkm ⊢
    obtain ⟨k1, k2, k3⟩ := k j hj hjn' hko m' hm' hkm
    rw [updB_ne (dsr _ k1), updN_ne (dsr _ k1), d1 _ j hjn', updN_ne (dsr _ k1), f1 _ j hjn']
    exact ⟨k1, k2, k3⟩
  · rw [qi, d1 _ i hi]
    by_cases z : j = n
    · rw [z, updN_eq, updN_eq]; exact Nat.le_refl _
    · rw [q1 j (by omega), d1 _ j (by omega)]; exact li j (by omega)
  · rw [qi] at h3 ⊢
    rw [d1 _ i hi, f1 _ i hi]
    by_cases z : m' = m
    · rw [z, hr, updB_eq, updN_eq, updN_eq]; exact ⟨rfl, Nat.le_refl _, fun _ => Nat.le_refl _⟩
    · obtain ⟨k1, k2, k3⟩ := M m' (by omega) h2 h3
      rw [updB_ne (dsr _ k1), updN_ne (dsr _ k1), updN_ne (dsr _ k1)]
      exact ⟨k1, k2, k3⟩
theorem QI_min {s : Nat} {dn fn qn : Nat → Nat} {ds : Nat → Bool} {n i m : Nat} (H : QI s dn fn qn ds n i) (M : QM s dn fn qn ds i m) (hi : i < n) (ho : ¬ kout (qn i) = true) (hm : m < 10) (hk : kmv (qn i) m = true) (hd : ds (kgo (qn i) m) = true) (he : dn (kgo (qn i) m) = dn (qn i) + 1) : QI s dn (updN fn (kgo (qn i) m) (min (fn (kgo (qn i) m)) (if qn i = s then m else fn (qn i)))) qn ds n i ∧ QM s dn (updN fn (kgo (qn i) m) (min (fn (kgo (qn i) m)) (if qn i = s then m else fn (qn i)))) qn ds i (m + 1) := by
  have hp := Q_path H hi ho hm hk
  obtain ⟨a, b, c, e, f, g, k, l⟩ := H
  obtain ⟨i1, i2, i3⟩ := a i hi
  have r1 := (kgo_at i1 hm).1
  generalize hr : kgo (qn i) m = r at *
  have nr : ∀ j, j ≤ i → qn j ≠ r := fun j hj q => by
    have := e j i hj hi
    rw [q, he] at this
    omega
  have lower : ∀ x, updN fn r (min (fn r) (if qn i = s then m else fn (qn i))) x ≤ fn x := fun x => by
    by_cases z : x = r
    · rw [z, updN_eq]; omega
    · rw [updN_ne z]; exact Nat.le_refl _
  have keep : ∀ j, j ≤ i → updN fn r (min (fn r) (if qn i = s then m else fn (qn i))) (qn j) = fn (qn j) := fun j hj => updN_ne (nr j hj)
  refine ⟨⟨a, b, c, e, f, fun p hp' hdp hps => ?_, fun j hj hjn hko m' hm' hkm => ?_, l⟩, fun m' h1 h2 h3 => ?_⟩
  · by_cases z : p = r
    · rw [z, updN_eq, he]
      have h := g r r1 hd (by rw [← z]; exact hps)
      rw [he] at h
      by_cases w : fn r ≤ (if qn i = s then m else fn (qn i))
      · rw [Nat.min_eq_left w]; exact h
      · rw [Nat.min_eq_right (by omega)]; exact hp
    · rw [updN_ne z]; exact g p hp' hdp hps
  · obtain ⟨k1, k2, k3⟩ := k j hj hjn hko m' hm' hkm
    rw [keep j (by omega)]
    exact ⟨k1, k2, fun q => Nat.le_trans (lower _) (k3 q)⟩
  · rw [keep i (Nat.le_refl _)]
    by_cases z : m' = m
    · rw [z, hr, updN_eq]
      exact ⟨hd, by omega, fun _ => by omega⟩
    · obtain ⟨k1, k2, k3⟩ := M m' (by omega) h2 h3
      exact ⟨k1, k2, fun q => Nat.le_trans (lower _) (k3 q)⟩
theorem QI_next {s : Nat} {dn fn qn : Nat → Nat} {ds : Nat → Bool} {n i : Nat} (H : QI s dn fn qn ds n i) (M : kout (qn i) = true ∨ QM s dn fn qn ds i 10) (hi : i < n) : QI s dn fn qn ds n (i + 1) := by
  obtain ⟨a, b, c, e, f, g, k, l⟩ := H
  refine ⟨a, b, c, e, f, g, fun j hj hjn hko m hm hk => ?_, fun h j hj => ?_⟩
  · by_cases z : j = i
    · subst z
      rcases M with q | M
      · exact absurd q hko
      · exact M m hm hm hk
    · exact k j (by omega) hjn hko m hm hk
  · have := l hi j hj
    have := e i (i + 1) (by omega) h
    omega
/-- what is found in the end is as near as can be, by the least first move -/
theorem QI_end {s : Nat} (hs : s < 1024) (hso : ¬ kout s = true) {dn fn qn : Nat → Nat} {ds : Nat → Bool} {n i : Nat} (H : QI s dn fn qn ds n i) (hi : n ≤ i) : ∀ k m q, RP s k m q → ds q = true ∧ dn q ≤ k ∧ (dn q = k → fn q ≤ m) := by
  obtain ⟨a, b, c, e, f, g, k, l⟩ := H
  intro t
  induction t with
  | zero => intro m q h; exact h.elim
  | succ t ih =>
    intro m q h
    cases t with
    | zero =>
      obtain ⟨h1, h2, h3⟩ := h
      obtain ⟨j, j1, j2⟩ := c s hs f.2.1
      have := k j (by omega) j1 (by rw [j2]; exact hso) m h1 (by rw [j2]; exact h2)
      rw [j2, f.2.2, if_pos rfl, ← h3] at this
      exact ⟨this.1, this.2.1, this.2.2⟩
    | succ t =>
      obtain ⟨q', j, h1, h2, h3, h4, h5⟩ := h
      obtain ⟨x, y, z⟩ := ih m q' h1
      have hq' := (RP_lt hs _ _ _ h1).1
      obtain ⟨o, o1, o2⟩ := c q' hq' x
      have := k o (by omega) o1 (by rw [o2]; exact h2) j h3 (by rw [o2]; exact h4)
      rw [o2, ← h5] at this
      refine ⟨this.1, by omega, fun w => ?_⟩
      have e1 : dn q' = t + 1 := by omega
      have e2 := this.2.2 (by omega)
      have hne : q' ≠ s := fun z => by rw [z, f.2.2] at e1; omega
      rw [if_neg hne] at e2
      have := z e1
      omega
theorem far_some {s : Nat} (hs : s < 1024) (hso : ¬ kout s = true) {dn fn qn : Nat → Nat} {ds : Nat → Bool} {n i : Nat} (H : QI s dn fn qn ds n i) (hi : n ≤ i) {r L B : Nat} (hr : r < 1024) (hd : ds r = true) (ho : kout r = true) (hL : dn r = L) (hB : fn r = B) (hmin : ∀ q, q < 1024 → ds q = true → kout q = true → L ≤ dn q ∧ (dn q = L → B ≤ fn q)) : kdist s = (Int32.ofNat L) ∧ lfN s = (Int32.ofNat B) ∧ L < 1024 ∧ B < 10 := by
  have en := QI_end hs hso H hi
  have hrs : r ≠ s := fun z => hso (by rw [← z]; exact ho)
  have pr : RP s L B r := by rw [← hL, ← hB]; exact H.2.2.2.2.2.1 r hr hd hrs
  obtain ⟨-, B10, L1⟩ := RP_lt hs _ _ _ pr
  have L2 : L < 1024 := by
    obtain ⟨j, j1, j2⟩ := H.2.2.1 r hr hd
    have h1 := (H.1 j j1).2.2
    rw [j2] at h1
    have : n ≤ 1024 := by rw [← H.2.1]; exact cnt_le _
    omega
  obtain ⟨x1, x2⟩ := RP_X L B r 0 pr ho
  rw [Nat.zero_add] at x2
  have low : ∀ k, klev k s = true → L ≤ k := by
    intro k
    induction k with
    | zero => intro h; exact absurd h hso
    | succ k ih =>
      intro h
      rcases klev_S.mp h with h | ⟨m, m1, m2, m3⟩
      · have := ih h; omega
      · obtain ⟨q, n', a1, a2, a3⟩ := RP_Y k 1 m (kgo s m) ⟨m1, m2, rfl⟩ (Nat.le_refl _) m3
        obtain ⟨b1, b2, b3⟩ := en n' m q a3
        have := (hmin q (RP_lt hs _ _ _ a3).1 b1 a2).1
        omega
  have hk : kdist s = (Int32.ofNat L) := kdist_some (by omega) (by
    rw [show L = (L - 1) + 1 by omega, klev_S]
    exact Or.inr ⟨B, B10, x1, x2⟩) (fun j hj h => by have := low j h; omega)
  have hlf : ∀ m, m < 10 → (lfP s m = true ↔ kmv s m = true ∧ klev (L - 1) (kgo s m) = true) := fun m hm => by
    unfold lfP
    rw [Bool.and_eq_true, decide_eq_true_eq, hk, pn_subc (by omega)]
    constructor
    · rintro ⟨h1, h2⟩
      refine ⟨h1, ?_⟩
      unfold kdist at h2
      split at h2
      · rename_i t ht
        have ht2 := List.find?_range_eq_some.mp ht
        have tl := List.mem_range.mp ht2.2.1
        have : t = L - 1 := (pn_eq (by omega) (by omega)).mp h2
        rw [← this]
        exact ht2.1
      · exact absurd h2 (ne_m1 (by omega))
    · rintro ⟨h1, h2⟩
      refine ⟨h1, kdist_some (by omega) h2 (fun j hj h => ?_)⟩
      have := low (j + 1) (klev_S.mpr (Or.inr ⟨m, hm, h1, h⟩))
      omega
  refine ⟨hk, ?_, L2, B10⟩
  have hfo : fo (lfP s) 10 = B := fo_un B10 ((hlf B B10).mpr ⟨x1, x2⟩) (fun m hm h => by
    obtain ⟨h1, h2⟩ := (hlf m (by omega)).mp h
    obtain ⟨q, n', a1, a2, a3⟩ := RP_Y (L - 1) 1 m (kgo s m) ⟨by omega, h1, rfl⟩ (Nat.le_refl _) h2
    obtain ⟨b1, b2, b3⟩ := en n' m q a3
    obtain ⟨c1, c2⟩ := hmin q (RP_lt hs _ _ _ a3).1 b1 a2
    have := c2 (by omega)
    have := b3 (by omega)
    omega)
  have h0 : ¬ kdist s ≤ (Int32.ofNat 0) := by
    rw [hk, pn_le (by omega) (by omega)]
    omega
  unfold lfN
  rw [if_neg h0, if_pos (anyN_iff.mpr ⟨B, B10, (hlf B B10).mpr ⟨x1, x2⟩⟩), hfo]
theorem far_none {s : Nat} (hs : s < 1024) (hso : ¬ kout s = true) {dn fn qn : Nat → Nat} {ds : Nat → Bool} {n i : Nat} (H : QI s dn fn qn ds n i) (hi : n ≤ i) (hno : ∀ q, q < 1024 → ds q = true → ¬ kout q = true) : kdist s = -1 ∧ lfN s = -1 := by
  have en := QI_end hs hso H hi
  have hk : kdist s = -1 := kdist_none (fun k => by
    induction k with
    | zero => exact hso
    | succ k ih =>
      intro h
      rcases klev_S.mp h with h | ⟨m, m1, m2, m3⟩
      · exact ih h
      · obtain ⟨q, n', a1, a2, a3⟩ := RP_Y k 1 m (kgo s m) ⟨m1, m2, rfl⟩ (Nat.le_refl _) m3
        exact hno q (RP_lt hs _ _ _ a3).1 (en n' m q a3).1 a2)
  refine ⟨hk, ?_⟩
  unfold lfN
  rw [hk, if_pos (by decide)]
